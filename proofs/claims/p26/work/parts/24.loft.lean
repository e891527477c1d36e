def wX7_table (a1 : Int32) (I : QI) (post : Int32 → QI → Prop) (px : String → QI → Prop) : Prop := ((a1 < 1 → (px "java/lang/IllegalArgumentException" I)) ∧ (¬ a1 < 1 → ((a1 ≤ 3 → (wX4_open a1 I (fun r2 I1 => ((¬ r2 = (-1) → post r2 I1) ∧ (r2 = (-1) → (px "java/lang/IllegalStateException" I1)))))) ∧ (¬ a1 ≤ 3 → (px "java/lang/IllegalArgumentException" I)))))
set_option maxRecDepth 100000 in
set_option maxHeartbeats 4000000 in
theorem s_mX7_table {X : QX} {S : QS} {a1 : Int32} {I : QI} {J : QJ} {post : Int32 → QI → Prop} {px : String → QI → Prop} (hS : Sh S) (h : wX7_table a1 I post px) : CX X mX7_table 2 1 6 [.ref 0, .int a1] S I J (q_Px S (fun r I2 J2 => J = J2 ∧ post r I2) (fun E I2 J2 => J = J2 ∧ px E I2)) := by
  refine CX.of (lo := [(0, .ref 0), (1, .int a1)]) ok_mX7_table rfl (Nat.le_of_ble_eq_true rfl) rfl ?_
  replace h : ((a1 < 1 → (px "java/lang/IllegalArgumentException" I)) ∧ (¬ a1 < 1 → ((a1 ≤ 3 → (wX4_open a1 I (fun r2 I1 => ((¬ r2 = (-1) → post r2 I1) ∧ (r2 = (-1) → (px "java/lang/IllegalStateException" I1)))))) ∧ (¬ a1 ≤ 3 → (px "java/lang/IllegalArgumentException" I))))) := h
  refine V_iload_n dX7_table_0 rfl rfl ?_
  refine V_iconst (v := 1) dX7_table_1 (by decide) ?_
  refine V_icmp_lt 10 dX7_table_2 rfl (fun hc => ?_) (fun hc => ?_)
  · replace h := h.1 hc
    exact V_throw (text := "a table has 1 to 3 columns") dX7_table_10 dX7_table_13 dX7_table_14 dX7_table_16 dX7_table_19 rfl (by decide +kernel) (by decide +kernel) rfl (by decide) (by decide) (by decide) (Or.inr ⟨_, rfl, rfl, rfl, h⟩)
  · replace h := h.2 hc
    refine V_iload_n dX7_table_5 rfl rfl ?_
    refine V_iconst (v := 3) dX7_table_6 (by decide) ?_
    refine V_icmp_le 20 dX7_table_7 rfl (fun hc => ?_) (fun hc => ?_)
    · replace h := h.1 hc
      refine V_aload_n dX7_table_20 rfl rfl ?_
      refine V_getr dX7_table_21 fl_RX7_10 (hS.n 0 rfl) (hS.k 0 7 rfl) rfl (hS.r 0 0 1 rfl) ?_
      refine V_iload_n dX7_table_24 rfl rfl ?_
      refine V_callVi (st := []) [.int a1] dX7_table_25 ok_mX4_open rfl ml_RX7_69 in_mX4_open se_mX4_open (hS.n 1 rfl) (hS.k 1 4 rfl) (by decide) rfl (Nat.le_of_ble_eq_true rfl) (by decide) (by decide) (by decide) (s_mX4_open hS h) (fun r2 I1 J9 h => ?_)
      obtain ⟨rfl, h⟩ := h
      refine V_istore_n (lo2 := [(2, .int r2), (0, .ref 0), (1, .int a1)]) dX7_table_28 rfl (by decide) rfl ?_
      refine V_iload_n dX7_table_29 rfl rfl ?_
      refine V_iconst (v := (-1)) dX7_table_30 (by decide) ?_
      refine V_icmp_ne 44 dX7_table_31 rfl (fun hc => ?_) (fun hc => ?_)
      · replace h := h.1 hc
        refine V_iload_n dX7_table_44 rfl rfl ?_
        exact V_iret dX7_table_45 rfl (by decide) (by decide) (Or.inl ⟨_, rfl, rfl, rfl, h⟩)
      · replace h := h.2 hc
        exact V_throw (text := "there are 4 tables") dX7_table_34 dX7_table_37 dX7_table_38 dX7_table_40 dX7_table_43 rfl (by decide +kernel) (by decide +kernel) rfl (by decide) (by decide) (by decide) (Or.inr ⟨_, rfl, rfl, rfl, h⟩)
    · replace h := h.2 hc
      exact V_throw (text := "a table has 1 to 3 columns") dX7_table_10 dX7_table_13 dX7_table_14 dX7_table_16 dX7_table_19 rfl (by decide +kernel) (by decide +kernel) rfl (by decide) (by decide) (by decide) (Or.inr ⟨_, rfl, rfl, rfl, h⟩)
def wX7_add (a1 : Int32) (a2 : Int32) (a3 : Int32) (a4 : Int32) (I : QI) (post : Int32 → QI → Prop) (px : String → QI → Prop) : Prop := (wX4_find a1 I (fun r1 => (r1 = none → (px "java/lang/IndexOutOfBoundsException" I)) ∧ (∀ t2 : Nat, t2 < 4 → r1 = some t2 → (wX5_allows t2 a2 a3 a4 I (fun r3 => ((¬ r3 = 0 → (wX5_isFull t2 I (fun r4 => ((r4 = 0 → (wX5_append t2 a2 a3 a4 I (fun I5 => (wX4_noteChange I5 (fun I6 => (wX5_count t2 I6 (fun r7 => post r7 I6))))))) ∧ (¬ r4 = 0 → (px "java/lang/IllegalStateException" I)))))) ∧ (r3 = 0 → (px "java/lang/IllegalArgumentException" I))))))))
set_option maxRecDepth 100000 in
set_option maxHeartbeats 4000000 in
theorem s_mX7_add {X : QX} {S : QS} {a1 : Int32} {a2 : Int32} {a3 : Int32} {a4 : Int32} {I : QI} {J : QJ} {post : Int32 → QI → Prop} {px : String → QI → Prop} (hS : Sh S) (h : wX7_add a1 a2 a3 a4 I post px) : CX X mX7_add 3 1 6 [.ref 0, .int a1, .int a2, .int a3, .int a4] S I J (q_Px S (fun r I2 J2 => J = J2 ∧ post r I2) (fun E I2 J2 => J = J2 ∧ px E I2)) := by
  refine CX.of (lo := [(0, .ref 0), (1, .int a1), (2, .int a2), (3, .int a3), (4, .int a4)]) ok_mX7_add rfl (Nat.le_of_ble_eq_true rfl) rfl ?_
  replace h : (wX4_find a1 I (fun r1 => (r1 = none → (px "java/lang/IndexOutOfBoundsException" I)) ∧ (∀ t2 : Nat, t2 < 4 → r1 = some t2 → (wX5_allows t2 a2 a3 a4 I (fun r3 => ((¬ r3 = 0 → (wX5_isFull t2 I (fun r4 => ((r4 = 0 → (wX5_append t2 a2 a3 a4 I (fun I5 => (wX4_noteChange I5 (fun I6 => (wX5_count t2 I6 (fun r7 => post r7 I6))))))) ∧ (¬ r4 = 0 → (px "java/lang/IllegalStateException" I)))))) ∧ (r3 = 0 → (px "java/lang/IllegalArgumentException" I)))))))) := h
  refine V_aload_n dX7_add_0 rfl rfl ?_
  refine V_getr dX7_add_1 fl_RX7_10 (hS.n 0 rfl) (hS.k 0 7 rfl) rfl (hS.r 0 0 1 rfl) ?_
  refine V_iload_n dX7_add_4 rfl rfl ?_
  refine V_callVt (st := []) [.int a1] dX7_add_5 ok_mX4_find rfl ml_RX7_78 in_mX4_find se_mX4_find (hS.n 1 rfl) (hS.k 1 4 rfl) (by decide) rfl (Nat.le_of_ble_eq_true rfl) (by decide) (by decide) (by decide) (s_mX4_find hS h) (fun I9 J9 h => ?_) (fun t2 I9 J9 ht2 h => ?_)
  · obtain ⟨rfl, rfl, h⟩ := h
    replace h := h.1 rfl
    refine V_astoreN (lo2 := [(5, .null), (0, .ref 0), (1, .int a1), (2, .int a2), (3, .int a3), (4, .int a4)]) dX7_add_8 (by decide) rfl ?_
    refine V_aloadN dX7_add_10 rfl ?_
    refine V_ifnonnullN dX7_add_12 ?_
    exact V_throw (text := "no such table") dX7_add_15 dX7_add_18 dX7_add_19 dX7_add_21 dX7_add_24 rfl (by decide +kernel) (by decide +kernel) rfl (by decide) (by decide) (by decide) (Or.inr ⟨_, rfl, rfl, rfl, h⟩)
  · obtain ⟨rfl, rfl, h⟩ := h
    replace h := h.2 t2 ht2 rfl
    refine V_astore (lo2 := [(5, .ref (3 + 3 * t2)), (0, .ref 0), (1, .int a1), (2, .int a2), (3, .int a3), (4, .int a4)]) dX7_add_8 (by decide) rfl ?_
    refine V_aload dX7_add_10 rfl ?_
    refine V_ifnonnull 25 dX7_add_12 rfl ?_
    refine V_aload dX7_add_25 rfl ?_
    refine V_iload_n dX7_add_27 rfl rfl ?_
    refine V_iload_n dX7_add_28 rfl rfl ?_
    refine V_iload dX7_add_29 rfl ?_
    refine V_callVi (st := []) [.int a2, .int a3, .int a4] dX7_add_31 ok_mX5_allows rfl ml_RX7_87 in_mX5_allows se_mX5_allows (hS.tn ht2 3 rfl) (hS.tk ht2) (by decide) rfl (Nat.le_of_ble_eq_true rfl) (by decide) (by decide) (by decide) (s_mX5_allows hS ht2 h) (fun r3 I9 J9 h => ?_)
    obtain ⟨rfl, rfl, h⟩ := h
    refine V_if_ne 47 dX7_add_34 rfl (fun hc => ?_) (fun hc => ?_)
    · replace h := h.1 hc
      refine V_aload dX7_add_47 rfl ?_
      refine V_callVi (st := []) [] dX7_add_49 ok_mX5_isFull rfl ml_RX7_95 in_mX5_isFull se_mX5_isFull (hS.tn ht2 3 rfl) (hS.tk ht2) (by decide) rfl (Nat.le_of_ble_eq_true rfl) (by decide) (by decide) (by decide) (s_mX5_isFull hS ht2 h) (fun r4 I9 J9 h => ?_)
      obtain ⟨rfl, rfl, h⟩ := h
      refine V_if_eq 65 dX7_add_52 rfl (fun hc => ?_) (fun hc => ?_)
      · replace h := h.1 hc
        refine V_aload dX7_add_65 rfl ?_
        refine V_iload_n dX7_add_67 rfl rfl ?_
        refine V_iload_n dX7_add_68 rfl rfl ?_
        refine V_iload dX7_add_69 rfl ?_
        refine V_callVv (st := []) [.int a2, .int a3, .int a4] dX7_add_71 ok_mX5_append rfl ml_RX7_101 in_mX5_append se_mX5_append (hS.tn ht2 3 rfl) (hS.tk ht2) (by decide) rfl (Nat.le_of_ble_eq_true rfl) (by decide) (by decide) (by decide) (s_mX5_append hS ht2 h) (fun I5 J9 h => ?_)
        obtain ⟨rfl, h⟩ := h
        refine V_aload_n dX7_add_74 rfl rfl ?_
        refine V_getr dX7_add_75 fl_RX7_10 (hS.n 0 rfl) (hS.k 0 7 rfl) rfl (hS.r 0 0 1 rfl) ?_
        refine V_callVv (st := []) [] dX7_add_78 ok_mX4_noteChange rfl ml_RX7_105 in_mX4_noteChange se_mX4_noteChange (hS.n 1 rfl) (hS.k 1 4 rfl) (by decide) rfl (Nat.le_of_ble_eq_true rfl) (by decide) (by decide) (by decide) (s_mX4_noteChange hS h) (fun I6 J9 h => ?_)
        obtain ⟨rfl, h⟩ := h
        refine V_aload dX7_add_81 rfl ?_
        refine V_callVi (st := []) [] dX7_add_83 ok_mX5_count rfl ml_RX7_108 in_mX5_count se_mX5_count (hS.tn ht2 3 rfl) (hS.tk ht2) (by decide) rfl (Nat.le_of_ble_eq_true rfl) (by decide) (by decide) (by decide) (s_mX5_count hS ht2 h) (fun r7 I9 J9 h => ?_)
        obtain ⟨rfl, rfl, h⟩ := h
        exact V_iret dX7_add_86 rfl (by decide) (by decide) (Or.inl ⟨_, rfl, rfl, rfl, h⟩)
      · replace h := h.2 hc
        exact V_throw (text := "the table has 10 rows") dX7_add_55 dX7_add_58 dX7_add_59 dX7_add_61 dX7_add_64 rfl (by decide +kernel) (by decide +kernel) rfl (by decide) (by decide) (by decide) (Or.inr ⟨_, rfl, rfl, rfl, h⟩)
    · replace h := h.2 hc
      exact V_throw (text := "a value is out of range") dX7_add_37 dX7_add_40 dX7_add_41 dX7_add_43 dX7_add_46 rfl (by decide +kernel) (by decide +kernel) rfl (by decide) (by decide) (by decide) (Or.inr ⟨_, rfl, rfl, rfl, h⟩)
def wX7_take (a1 : Int32) (a2 : Int32) (I : QI) (post : Int32 → QI → Prop) (px : String → QI → Prop) : Prop := (wX4_find a1 I (fun r1 => (r1 = none → (px "java/lang/IndexOutOfBoundsException" I)) ∧ (∀ t2 : Nat, t2 < 4 → r1 = some t2 → (wX5_hasRow t2 a2 I (fun r3 => ((¬ r3 = 0 → (wX5_remove t2 a2 I (fun I4 => (wX4_noteChange I4 (fun I5 => (wX5_count t2 I5 (fun r6 => post r6 I5))))))) ∧ (r3 = 0 → (px "java/lang/IndexOutOfBoundsException" I))))))))
set_option maxRecDepth 100000 in
set_option maxHeartbeats 4000000 in
theorem s_mX7_take {X : QX} {S : QS} {a1 : Int32} {a2 : Int32} {I : QI} {J : QJ} {post : Int32 → QI → Prop} {px : String → QI → Prop} (hS : Sh S) (h : wX7_take a1 a2 I post px) : CX X mX7_take 1 1 6 [.ref 0, .int a1, .int a2] S I J (q_Px S (fun r I2 J2 => J = J2 ∧ post r I2) (fun E I2 J2 => J = J2 ∧ px E I2)) := by
  refine CX.of (lo := [(0, .ref 0), (1, .int a1), (2, .int a2)]) ok_mX7_take rfl (Nat.le_of_ble_eq_true rfl) rfl ?_
  replace h : (wX4_find a1 I (fun r1 => (r1 = none → (px "java/lang/IndexOutOfBoundsException" I)) ∧ (∀ t2 : Nat, t2 < 4 → r1 = some t2 → (wX5_hasRow t2 a2 I (fun r3 => ((¬ r3 = 0 → (wX5_remove t2 a2 I (fun I4 => (wX4_noteChange I4 (fun I5 => (wX5_count t2 I5 (fun r6 => post r6 I5))))))) ∧ (r3 = 0 → (px "java/lang/IndexOutOfBoundsException" I)))))))) := h
  refine V_aload_n dX7_take_0 rfl rfl ?_
  refine V_getr dX7_take_1 fl_RX7_10 (hS.n 0 rfl) (hS.k 0 7 rfl) rfl (hS.r 0 0 1 rfl) ?_
  refine V_iload_n dX7_take_4 rfl rfl ?_
  refine V_callVt (st := []) [.int a1] dX7_take_5 ok_mX4_find rfl ml_RX7_78 in_mX4_find se_mX4_find (hS.n 1 rfl) (hS.k 1 4 rfl) (by decide) rfl (Nat.le_of_ble_eq_true rfl) (by decide) (by decide) (by decide) (s_mX4_find hS h) (fun I9 J9 h => ?_) (fun t2 I9 J9 ht2 h => ?_)
  · obtain ⟨rfl, rfl, h⟩ := h
    replace h := h.1 rfl
    refine V_astore_nN (lo2 := [(3, .null), (0, .ref 0), (1, .int a1), (2, .int a2)]) dX7_take_8 rfl (by decide) rfl ?_
    refine V_aload_nN dX7_take_9 rfl rfl ?_
    refine V_ifnullN 21 dX7_take_10 rfl ?_
    exact V_throw (text := "no such table or row") dX7_take_21 dX7_take_24 dX7_take_25 dX7_take_27 dX7_take_30 rfl (by decide +kernel) (by decide +kernel) rfl (by decide) (by decide) (by decide) (Or.inr ⟨_, rfl, rfl, rfl, h⟩)
  · obtain ⟨rfl, rfl, h⟩ := h
    replace h := h.2 t2 ht2 rfl
    refine V_astore_n (lo2 := [(3, .ref (3 + 3 * t2)), (0, .ref 0), (1, .int a1), (2, .int a2)]) dX7_take_8 rfl (by decide) rfl ?_
    refine V_aload_n dX7_take_9 rfl rfl ?_
    refine V_ifnull dX7_take_10 ?_
    refine V_aload_n dX7_take_13 rfl rfl ?_
    refine V_iload_n dX7_take_14 rfl rfl ?_
    refine V_callVi (st := []) [.int a2] dX7_take_15 ok_mX5_hasRow rfl ml_RX7_112 in_mX5_hasRow se_mX5_hasRow (hS.tn ht2 3 rfl) (hS.tk ht2) (by decide) rfl (Nat.le_of_ble_eq_true rfl) (by decide) (by decide) (by decide) (s_mX5_hasRow hS ht2 h) (fun r3 I9 J9 h => ?_)
    obtain ⟨rfl, rfl, h⟩ := h
    refine V_if_ne 31 dX7_take_18 rfl (fun hc => ?_) (fun hc => ?_)
    · replace h := h.1 hc
      refine V_aload_n dX7_take_31 rfl rfl ?_
      refine V_iload_n dX7_take_32 rfl rfl ?_
      refine V_callVv (st := []) [.int a2] dX7_take_33 ok_mX5_remove rfl ml_RX7_118 in_mX5_remove se_mX5_remove (hS.tn ht2 3 rfl) (hS.tk ht2) (by decide) rfl (Nat.le_of_ble_eq_true rfl) (by decide) (by decide) (by decide) (s_mX5_remove hS ht2 h) (fun I4 J9 h => ?_)
      obtain ⟨rfl, h⟩ := h
      refine V_aload_n dX7_take_36 rfl rfl ?_
      refine V_getr dX7_take_37 fl_RX7_10 (hS.n 0 rfl) (hS.k 0 7 rfl) rfl (hS.r 0 0 1 rfl) ?_
      refine V_callVv (st := []) [] dX7_take_40 ok_mX4_noteChange rfl ml_RX7_105 in_mX4_noteChange se_mX4_noteChange (hS.n 1 rfl) (hS.k 1 4 rfl) (by decide) rfl (Nat.le_of_ble_eq_true rfl) (by decide) (by decide) (by decide) (s_mX4_noteChange hS h) (fun I5 J9 h => ?_)
      obtain ⟨rfl, h⟩ := h
      refine V_aload_n dX7_take_43 rfl rfl ?_
      refine V_callVi (st := []) [] dX7_take_44 ok_mX5_count rfl ml_RX7_108 in_mX5_count se_mX5_count (hS.tn ht2 3 rfl) (hS.tk ht2) (by decide) rfl (Nat.le_of_ble_eq_true rfl) (by decide) (by decide) (by decide) (s_mX5_count hS ht2 h) (fun r6 I9 J9 h => ?_)
      obtain ⟨rfl, rfl, h⟩ := h
      exact V_iret dX7_take_47 rfl (by decide) (by decide) (Or.inl ⟨_, rfl, rfl, rfl, h⟩)
    · replace h := h.2 hc
      exact V_throw (text := "no such table or row") dX7_take_21 dX7_take_24 dX7_take_25 dX7_take_27 dX7_take_30 rfl (by decide +kernel) (by decide +kernel) rfl (by decide) (by decide) (by decide) (Or.inr ⟨_, rfl, rfl, rfl, h⟩)
def wX7_scan (a1 : Int32) (I : QI) (post : Int32 → QI → Prop) (px : String → QI → Prop) : Prop := (wX4_find a1 I (fun r1 => (r1 = none → (px "java/lang/IndexOutOfBoundsException" I)) ∧ (∀ t2 : Nat, t2 < 4 → r1 = some t2 → (wX2_make 0 a1 (-1) 0 0 0 I (fun r4 I3 => ((¬ r4 = (-1) → post r4 I3) ∧ (r4 = (-1) → (px "java/lang/IllegalStateException" I3))))))))
set_option maxRecDepth 100000 in
set_option maxHeartbeats 4000000 in
theorem s_mX7_scan {X : QX} {S : QS} {a1 : Int32} {I : QI} {J : QJ} {post : Int32 → QI → Prop} {px : String → QI → Prop} (hS : Sh S) (h : wX7_scan a1 I post px) : CX X mX7_scan 3 1 6 [.ref 0, .int a1] S I J (q_Px S (fun r I2 J2 => J = J2 ∧ post r I2) (fun E I2 J2 => J = J2 ∧ px E I2)) := by
  refine CX.of (lo := [(0, .ref 0), (1, .int a1)]) ok_mX7_scan rfl (Nat.le_of_ble_eq_true rfl) rfl ?_
  replace h : (wX4_find a1 I (fun r1 => (r1 = none → (px "java/lang/IndexOutOfBoundsException" I)) ∧ (∀ t2 : Nat, t2 < 4 → r1 = some t2 → (wX2_make 0 a1 (-1) 0 0 0 I (fun r4 I3 => ((¬ r4 = (-1) → post r4 I3) ∧ (r4 = (-1) → (px "java/lang/IllegalStateException" I3)))))))) := h
  refine V_aload_n dX7_scan_0 rfl rfl ?_
  refine V_getr dX7_scan_1 fl_RX7_10 (hS.n 0 rfl) (hS.k 0 7 rfl) rfl (hS.r 0 0 1 rfl) ?_
  refine V_iload_n dX7_scan_4 rfl rfl ?_
  refine V_callVt (st := []) [.int a1] dX7_scan_5 ok_mX4_find rfl ml_RX7_78 in_mX4_find se_mX4_find (hS.n 1 rfl) (hS.k 1 4 rfl) (by decide) rfl (Nat.le_of_ble_eq_true rfl) (by decide) (by decide) (by decide) (s_mX4_find hS h) (fun I9 J9 h => ?_) (fun t2 I9 J9 ht2 h => ?_)
  · obtain ⟨rfl, rfl, h⟩ := h
    replace h := h.1 rfl
    refine V_ifnonnullN dX7_scan_8 ?_
    exact V_throw (text := "no such table") dX7_scan_11 dX7_scan_14 dX7_scan_15 dX7_scan_17 dX7_scan_20 rfl (by decide +kernel) (by decide +kernel) rfl (by decide) (by decide) (by decide) (Or.inr ⟨_, rfl, rfl, rfl, h⟩)
  · obtain ⟨rfl, rfl, h⟩ := h
    replace h := h.2 t2 ht2 rfl
    refine V_ifnonnull 21 dX7_scan_8 rfl ?_
    refine V_aload_n dX7_scan_21 rfl rfl ?_
    refine V_getr dX7_scan_22 fl_RX7_21 (hS.n 0 rfl) (hS.k 0 7 rfl) rfl (hS.r 0 1 15 rfl) ?_
    refine V_iconst (v := 0) dX7_scan_25 (by decide) ?_
    refine V_iload_n dX7_scan_26 rfl rfl ?_
    refine V_iconst (v := (-1)) dX7_scan_27 (by decide) ?_
    refine V_iconst (v := 0) dX7_scan_28 (by decide) ?_
    refine V_iconst (v := 0) dX7_scan_29 (by decide) ?_
    refine V_iconst (v := 0) dX7_scan_30 (by decide) ?_
    refine V_callVi (st := []) [.int 0, .int a1, .int (-1), .int 0, .int 0, .int 0] dX7_scan_31 ok_mX2_make rfl ml_RX7_122 in_mX2_make se_mX2_make (hS.n 15 rfl) (hS.k 15 2 rfl) (by decide) rfl (Nat.le_of_ble_eq_true rfl) (by decide) (by decide) (by decide) (s_mX2_make hS h) (fun r4 I3 J9 h => ?_)
    obtain ⟨rfl, h⟩ := h
    refine V_istore_n (lo2 := [(2, .int r4), (0, .ref 0), (1, .int a1)]) dX7_scan_34 rfl (by decide) rfl ?_
    refine V_iload_n dX7_scan_35 rfl rfl ?_
    refine V_iconst (v := (-1)) dX7_scan_36 (by decide) ?_
    refine V_icmp_ne 50 dX7_scan_37 rfl (fun hc => ?_) (fun hc => ?_)
    · replace h := h.1 hc
      refine V_iload_n dX7_scan_50 rfl rfl ?_
      exact V_iret dX7_scan_51 rfl (by decide) (by decide) (Or.inl ⟨_, rfl, rfl, rfl, h⟩)
    · replace h := h.2 hc
      exact V_throw (text := "there are 24 nodes") dX7_scan_40 dX7_scan_43 dX7_scan_44 dX7_scan_46 dX7_scan_49 rfl (by decide +kernel) (by decide +kernel) rfl (by decide) (by decide) (by decide) (Or.inr ⟨_, rfl, rfl, rfl, h⟩)
def wX7_filter (a1 : Int32) (a2 : Int32) (a3 : Int32) (a4 : Int32) (I : QI) (post : Int32 → QI → Prop) (px : String → QI → Prop) : Prop := (wX2_hasColumn a1 a2 I (fun r1 => ((¬ r1 = 0 → ((a3 < 0 → (px "java/lang/IllegalArgumentException" I)) ∧ (¬ a3 < 0 → ((5 < a3 → (px "java/lang/IllegalArgumentException" I)) ∧ (¬ 5 < a3 → (wX7_isKnownValue a4 I (fun r2 => ((¬ r2 = 0 → ((a3 < 4 → (wX2_make 1 a1 (-1) a3 a2 a4 I (fun r4 I3 => ((¬ r4 = (-1) → post r4 I3) ∧ (r4 = (-1) → (px "java/lang/IllegalStateException" I3)))))) ∧ (¬ a3 < 4 → ((a4 = 0 → (wX2_make 1 a1 (-1) a3 a2 a4 I (fun r6 I5 => ((¬ r6 = (-1) → post r6 I5) ∧ (r6 = (-1) → (px "java/lang/IllegalStateException" I5)))))) ∧ (¬ a4 = 0 → (px "java/lang/IllegalArgumentException" I)))))) ∧ (r2 = 0 → (px "java/lang/IllegalArgumentException" I)))))))))) ∧ (r1 = 0 → (px "java/lang/IndexOutOfBoundsException" I)))))
set_option maxRecDepth 100000 in
set_option maxHeartbeats 4000000 in
theorem s_mX7_filter {X : QX} {S : QS} {a1 : Int32} {a2 : Int32} {a3 : Int32} {a4 : Int32} {I : QI} {J : QJ} {post : Int32 → QI → Prop} {px : String → QI → Prop} (hS : Sh S) (h : wX7_filter a1 a2 a3 a4 I post px) : CX X mX7_filter 3 1 6 [.ref 0, .int a1, .int a2, .int a3, .int a4] S I J (q_Px S (fun r I2 J2 => J = J2 ∧ post r I2) (fun E I2 J2 => J = J2 ∧ px E I2)) := by
  refine CX.of (lo := [(0, .ref 0), (1, .int a1), (2, .int a2), (3, .int a3), (4, .int a4)]) ok_mX7_filter rfl (Nat.le_of_ble_eq_true rfl) rfl ?_
  replace h : (wX2_hasColumn a1 a2 I (fun r1 => ((¬ r1 = 0 → ((a3 < 0 → (px "java/lang/IllegalArgumentException" I)) ∧ (¬ a3 < 0 → ((5 < a3 → (px "java/lang/IllegalArgumentException" I)) ∧ (¬ 5 < a3 → (wX7_isKnownValue a4 I (fun r2 => ((¬ r2 = 0 → ((a3 < 4 → (wX2_make 1 a1 (-1) a3 a2 a4 I (fun r4 I3 => ((¬ r4 = (-1) → post r4 I3) ∧ (r4 = (-1) → (px "java/lang/IllegalStateException" I3)))))) ∧ (¬ a3 < 4 → ((a4 = 0 → (wX2_make 1 a1 (-1) a3 a2 a4 I (fun r6 I5 => ((¬ r6 = (-1) → post r6 I5) ∧ (r6 = (-1) → (px "java/lang/IllegalStateException" I5)))))) ∧ (¬ a4 = 0 → (px "java/lang/IllegalArgumentException" I)))))) ∧ (r2 = 0 → (px "java/lang/IllegalArgumentException" I)))))))))) ∧ (r1 = 0 → (px "java/lang/IndexOutOfBoundsException" I))))) := h
  refine V_aload_n dX7_filter_0 rfl rfl ?_
  refine V_getr dX7_filter_1 fl_RX7_21 (hS.n 0 rfl) (hS.k 0 7 rfl) rfl (hS.r 0 1 15 rfl) ?_
  refine V_iload_n dX7_filter_4 rfl rfl ?_
  refine V_iload_n dX7_filter_5 rfl rfl ?_
  refine V_callVi (st := []) [.int a1, .int a2] dX7_filter_6 ok_mX2_hasColumn rfl ml_RX7_128 in_mX2_hasColumn se_mX2_hasColumn (hS.n 15 rfl) (hS.k 15 2 rfl) (by decide) rfl (Nat.le_of_ble_eq_true rfl) (by decide) (by decide) (by decide) (s_mX2_hasColumn hS h) (fun r1 I9 J9 h => ?_)
  obtain ⟨rfl, rfl, h⟩ := h
  refine V_if_ne 22 dX7_filter_9 rfl (fun hc => ?_) (fun hc => ?_)
  · replace h := h.1 hc
    refine V_iload_n dX7_filter_22 rfl rfl ?_
    refine V_if_lt 39 dX7_filter_23 rfl (fun hc => ?_) (fun hc => ?_)
    · replace h := h.1 hc
      exact V_throw (text := "comparison or value is out of range") dX7_filter_39 dX7_filter_42 dX7_filter_43 dX7_filter_45 dX7_filter_48 rfl (by decide +kernel) (by decide +kernel) rfl (by decide) (by decide) (by decide) (Or.inr ⟨_, rfl, rfl, rfl, h⟩)
    · replace h := h.2 hc
      refine V_iload_n dX7_filter_26 rfl rfl ?_
      refine V_iconst (v := 5) dX7_filter_27 (by decide) ?_
      refine V_icmp_gt 39 dX7_filter_28 rfl (fun hc => ?_) (fun hc => ?_)
      · replace h := h.1 hc
        exact V_throw (text := "comparison or value is out of range") dX7_filter_39 dX7_filter_42 dX7_filter_43 dX7_filter_45 dX7_filter_48 rfl (by decide +kernel) (by decide +kernel) rfl (by decide) (by decide) (by decide) (Or.inr ⟨_, rfl, rfl, rfl, h⟩)
      · replace h := h.2 hc
        refine V_iload dX7_filter_31 rfl ?_
        refine V_callSi (st := []) [.int a4] dX7_filter_33 ok_mX7_isKnownValue rfl ml_RX7_134 st_mX7_isKnownValue (Nat.le_of_ble_eq_true rfl) (by decide) (by decide) (by decide) (s_mX7_isKnownValue hS h) (fun r2 I9 J9 h => ?_)
        obtain ⟨rfl, rfl, h⟩ := h
        refine V_if_ne 49 dX7_filter_36 rfl (fun hc => ?_) (fun hc => ?_)
        · replace h := h.1 hc
          refine V_iload_n dX7_filter_49 rfl rfl ?_
          refine V_iconst (v := 4) dX7_filter_50 (by decide) ?_
          refine V_icmp_lt 69 dX7_filter_51 rfl (fun hc => ?_) (fun hc => ?_)
          · replace h := h.1 hc
            refine V_aload_n dX7_filter_69 rfl rfl ?_
            refine V_getr dX7_filter_70 fl_RX7_21 (hS.n 0 rfl) (hS.k 0 7 rfl) rfl (hS.r 0 1 15 rfl) ?_
            refine V_iconst (v := 1) dX7_filter_73 (by decide) ?_
            refine V_iload_n dX7_filter_74 rfl rfl ?_
            refine V_iconst (v := (-1)) dX7_filter_75 (by decide) ?_
            refine V_iload_n dX7_filter_76 rfl rfl ?_
            refine V_iload_n dX7_filter_77 rfl rfl ?_
            refine V_iload dX7_filter_78 rfl ?_
            refine V_callVi (st := []) [.int 1, .int a1, .int (-1), .int a3, .int a2, .int a4] dX7_filter_80 ok_mX2_make rfl ml_RX7_122 in_mX2_make se_mX2_make (hS.n 15 rfl) (hS.k 15 2 rfl) (by decide) rfl (Nat.le_of_ble_eq_true rfl) (by decide) (by decide) (by decide) (s_mX2_make hS h) (fun r4 I3 J9 h => ?_)
            obtain ⟨rfl, h⟩ := h
            refine V_istore (lo2 := [(5, .int r4), (0, .ref 0), (1, .int a1), (2, .int a2), (3, .int a3), (4, .int a4)]) dX7_filter_83 (by decide) rfl ?_
            refine V_iload dX7_filter_85 rfl ?_
            refine V_iconst (v := (-1)) dX7_filter_87 (by decide) ?_
            refine V_icmp_ne 101 dX7_filter_88 rfl (fun hc => ?_) (fun hc => ?_)
            · replace h := h.1 hc
              refine V_iload dX7_filter_101 rfl ?_
              exact V_iret dX7_filter_103 rfl (by decide) (by decide) (Or.inl ⟨_, rfl, rfl, rfl, h⟩)
            · replace h := h.2 hc
              exact V_throw (text := "there are 24 nodes") dX7_filter_91 dX7_filter_94 dX7_filter_95 dX7_filter_97 dX7_filter_100 rfl (by decide +kernel) (by decide +kernel) rfl (by decide) (by decide) (by decide) (Or.inr ⟨_, rfl, rfl, rfl, h⟩)
          · replace h := h.2 hc
            refine V_iload dX7_filter_54 rfl ?_
            refine V_if_eq 69 dX7_filter_56 rfl (fun hc => ?_) (fun hc => ?_)
            · replace h := h.1 hc
              refine V_aload_n dX7_filter_69 rfl rfl ?_
              refine V_getr dX7_filter_70 fl_RX7_21 (hS.n 0 rfl) (hS.k 0 7 rfl) rfl (hS.r 0 1 15 rfl) ?_
              refine V_iconst (v := 1) dX7_filter_73 (by decide) ?_
              refine V_iload_n dX7_filter_74 rfl rfl ?_
              refine V_iconst (v := (-1)) dX7_filter_75 (by decide) ?_
              refine V_iload_n dX7_filter_76 rfl rfl ?_
              refine V_iload_n dX7_filter_77 rfl rfl ?_
              refine V_iload dX7_filter_78 rfl ?_
              refine V_callVi (st := []) [.int 1, .int a1, .int (-1), .int a3, .int a2, .int a4] dX7_filter_80 ok_mX2_make rfl ml_RX7_122 in_mX2_make se_mX2_make (hS.n 15 rfl) (hS.k 15 2 rfl) (by decide) rfl (Nat.le_of_ble_eq_true rfl) (by decide) (by decide) (by decide) (s_mX2_make hS h) (fun r6 I5 J9 h => ?_)
              obtain ⟨rfl, h⟩ := h
              refine V_istore (lo2 := [(5, .int r6), (0, .ref 0), (1, .int a1), (2, .int a2), (3, .int a3), (4, .int a4)]) dX7_filter_83 (by decide) rfl ?_
              refine V_iload dX7_filter_85 rfl ?_
              refine V_iconst (v := (-1)) dX7_filter_87 (by decide) ?_
              refine V_icmp_ne 101 dX7_filter_88 rfl (fun hc => ?_) (fun hc => ?_)
              · replace h := h.1 hc
                refine V_iload dX7_filter_101 rfl ?_
                exact V_iret dX7_filter_103 rfl (by decide) (by decide) (Or.inl ⟨_, rfl, rfl, rfl, h⟩)
              · replace h := h.2 hc
                exact V_throw (text := "there are 24 nodes") dX7_filter_91 dX7_filter_94 dX7_filter_95 dX7_filter_97 dX7_filter_100 rfl (by decide +kernel) (by decide +kernel) rfl (by decide) (by decide) (by decide) (Or.inr ⟨_, rfl, rfl, rfl, h⟩)
            · replace h := h.2 hc
              exact V_throw (text := "the value is 0 for this comparison") dX7_filter_59 dX7_filter_62 dX7_filter_63 dX7_filter_65 dX7_filter_68 rfl (by decide +kernel) (by decide +kernel) rfl (by decide) (by decide) (by decide) (Or.inr ⟨_, rfl, rfl, rfl, h⟩)
        · replace h := h.2 hc
          exact V_throw (text := "comparison or value is out of range") dX7_filter_39 dX7_filter_42 dX7_filter_43 dX7_filter_45 dX7_filter_48 rfl (by decide +kernel) (by decide +kernel) rfl (by decide) (by decide) (by decide) (Or.inr ⟨_, rfl, rfl, rfl, h⟩)
  · replace h := h.2 hc
    exact V_throw (text := "no such node or column") dX7_filter_12 dX7_filter_15 dX7_filter_16 dX7_filter_18 dX7_filter_21 rfl (by decide +kernel) (by decide +kernel) rfl (by decide) (by decide) (by decide) (Or.inr ⟨_, rfl, rfl, rfl, h⟩)
def wX7_join (a1 : Int32) (a2 : Int32) (a3 : Int32) (a4 : Int32) (a5 : Int32) (I : QI) (post : Int32 → QI → Prop) (px : String → QI → Prop) : Prop := (wX2_hasColumn a1 a3 I (fun r1 => ((r1 = 0 → (px "java/lang/IndexOutOfBoundsException" I)) ∧ (¬ r1 = 0 → (wX2_hasColumn a2 a4 I (fun r2 => ((¬ r2 = 0 → ((a5 < 0 → (px "java/lang/IllegalArgumentException" I)) ∧ (¬ a5 < 0 → ((a5 ≤ 4 → (wX2_widthMade 2 a1 a2 a5 I (fun r3 => ((r3 ≤ 6 → (wX2_make 2 a1 a2 a5 a3 a4 I (fun r5 I4 => ((¬ r5 = (-1) → post r5 I4) ∧ (r5 = (-1) → (px "java/lang/IllegalStateException" I4)))))) ∧ (¬ r3 ≤ 6 → (px "java/lang/IllegalStateException" I)))))) ∧ (¬ a5 ≤ 4 → (px "java/lang/IllegalArgumentException" I)))))) ∧ (r2 = 0 → (px "java/lang/IndexOutOfBoundsException" I)))))))))
set_option maxRecDepth 100000 in
set_option maxHeartbeats 4000000 in
theorem s_mX7_join {X : QX} {S : QS} {a1 : Int32} {a2 : Int32} {a3 : Int32} {a4 : Int32} {a5 : Int32} {I : QI} {J : QJ} {post : Int32 → QI → Prop} {px : String → QI → Prop} (hS : Sh S) (h : wX7_join a1 a2 a3 a4 a5 I post px) : CX X mX7_join 3 1 6 [.ref 0, .int a1, .int a2, .int a3, .int a4, .int a5] S I J (q_Px S (fun r I2 J2 => J = J2 ∧ post r I2) (fun E I2 J2 => J = J2 ∧ px E I2)) := by
  refine CX.of (lo := [(0, .ref 0), (1, .int a1), (2, .int a2), (3, .int a3), (4, .int a4), (5, .int a5)]) ok_mX7_join rfl (Nat.le_of_ble_eq_true rfl) rfl ?_
  replace h : (wX2_hasColumn a1 a3 I (fun r1 => ((r1 = 0 → (px "java/lang/IndexOutOfBoundsException" I)) ∧ (¬ r1 = 0 → (wX2_hasColumn a2 a4 I (fun r2 => ((¬ r2 = 0 → ((a5 < 0 → (px "java/lang/IllegalArgumentException" I)) ∧ (¬ a5 < 0 → ((a5 ≤ 4 → (wX2_widthMade 2 a1 a2 a5 I (fun r3 => ((r3 ≤ 6 → (wX2_make 2 a1 a2 a5 a3 a4 I (fun r5 I4 => ((¬ r5 = (-1) → post r5 I4) ∧ (r5 = (-1) → (px "java/lang/IllegalStateException" I4)))))) ∧ (¬ r3 ≤ 6 → (px "java/lang/IllegalStateException" I)))))) ∧ (¬ a5 ≤ 4 → (px "java/lang/IllegalArgumentException" I)))))) ∧ (r2 = 0 → (px "java/lang/IndexOutOfBoundsException" I))))))))) := h
  refine V_aload_n dX7_join_0 rfl rfl ?_
  refine V_getr dX7_join_1 fl_RX7_21 (hS.n 0 rfl) (hS.k 0 7 rfl) rfl (hS.r 0 1 15 rfl) ?_
  refine V_iload_n dX7_join_4 rfl rfl ?_
  refine V_iload_n dX7_join_5 rfl rfl ?_
  refine V_callVi (st := []) [.int a1, .int a3] dX7_join_6 ok_mX2_hasColumn rfl ml_RX7_128 in_mX2_hasColumn se_mX2_hasColumn (hS.n 15 rfl) (hS.k 15 2 rfl) (by decide) rfl (Nat.le_of_ble_eq_true rfl) (by decide) (by decide) (by decide) (s_mX2_hasColumn hS h) (fun r1 I9 J9 h => ?_)
  obtain ⟨rfl, rfl, h⟩ := h
  refine V_if_eq 25 dX7_join_9 rfl (fun hc => ?_) (fun hc => ?_)
  · replace h := h.1 hc
    exact V_throw (text := "no such node or column") dX7_join_25 dX7_join_28 dX7_join_29 dX7_join_31 dX7_join_34 rfl (by decide +kernel) (by decide +kernel) rfl (by decide) (by decide) (by decide) (Or.inr ⟨_, rfl, rfl, rfl, h⟩)
  · replace h := h.2 hc
    refine V_aload_n dX7_join_12 rfl rfl ?_
    refine V_getr dX7_join_13 fl_RX7_21 (hS.n 0 rfl) (hS.k 0 7 rfl) rfl (hS.r 0 1 15 rfl) ?_
    refine V_iload_n dX7_join_16 rfl rfl ?_
    refine V_iload dX7_join_17 rfl ?_
    refine V_callVi (st := []) [.int a2, .int a4] dX7_join_19 ok_mX2_hasColumn rfl ml_RX7_128 in_mX2_hasColumn se_mX2_hasColumn (hS.n 15 rfl) (hS.k 15 2 rfl) (by decide) rfl (Nat.le_of_ble_eq_true rfl) (by decide) (by decide) (by decide) (s_mX2_hasColumn hS h) (fun r2 I9 J9 h => ?_)
    obtain ⟨rfl, rfl, h⟩ := h
    refine V_if_ne 35 dX7_join_22 rfl (fun hc => ?_) (fun hc => ?_)
    · replace h := h.1 hc
      refine V_iload dX7_join_35 rfl ?_
      refine V_if_lt 46 dX7_join_37 rfl (fun hc => ?_) (fun hc => ?_)
      · replace h := h.1 hc
        exact V_throw (text := "kind is out of range") dX7_join_46 dX7_join_49 dX7_join_50 dX7_join_52 dX7_join_55 rfl (by decide +kernel) (by decide +kernel) rfl (by decide) (by decide) (by decide) (Or.inr ⟨_, rfl, rfl, rfl, h⟩)
      · replace h := h.2 hc
        refine V_iload dX7_join_40 rfl ?_
        refine V_iconst (v := 4) dX7_join_42 (by decide) ?_
        refine V_icmp_le 56 dX7_join_43 rfl (fun hc => ?_) (fun hc => ?_)
        · replace h := h.1 hc
          refine V_aload_n dX7_join_56 rfl rfl ?_
          refine V_getr dX7_join_57 fl_RX7_21 (hS.n 0 rfl) (hS.k 0 7 rfl) rfl (hS.r 0 1 15 rfl) ?_
          refine V_iconst (v := 2) dX7_join_60 (by decide) ?_
          refine V_iload_n dX7_join_61 rfl rfl ?_
          refine V_iload_n dX7_join_62 rfl rfl ?_
          refine V_iload dX7_join_63 rfl ?_
          refine V_callVi (st := []) [.int 2, .int a1, .int a2, .int a5] dX7_join_65 ok_mX2_widthMade rfl ml_RX7_143 in_mX2_widthMade se_mX2_widthMade (hS.n 15 rfl) (hS.k 15 2 rfl) (by decide) rfl (Nat.le_of_ble_eq_true rfl) (by decide) (by decide) (by decide) (s_mX2_widthMade hS h) (fun r3 I9 J9 h => ?_)
          obtain ⟨rfl, rfl, h⟩ := h
          refine V_bipush (v := 6) dX7_join_68 (by decide) ?_
          refine V_icmp_le 83 dX7_join_70 rfl (fun hc => ?_) (fun hc => ?_)
          · replace h := h.1 hc
            refine V_aload_n dX7_join_83 rfl rfl ?_
            refine V_getr dX7_join_84 fl_RX7_21 (hS.n 0 rfl) (hS.k 0 7 rfl) rfl (hS.r 0 1 15 rfl) ?_
            refine V_iconst (v := 2) dX7_join_87 (by decide) ?_
            refine V_iload_n dX7_join_88 rfl rfl ?_
            refine V_iload_n dX7_join_89 rfl rfl ?_
            refine V_iload dX7_join_90 rfl ?_
            refine V_iload_n dX7_join_92 rfl rfl ?_
            refine V_iload dX7_join_93 rfl ?_
            refine V_callVi (st := []) [.int 2, .int a1, .int a2, .int a5, .int a3, .int a4] dX7_join_95 ok_mX2_make rfl ml_RX7_122 in_mX2_make se_mX2_make (hS.n 15 rfl) (hS.k 15 2 rfl) (by decide) rfl (Nat.le_of_ble_eq_true rfl) (by decide) (by decide) (by decide) (s_mX2_make hS h) (fun r5 I4 J9 h => ?_)
            obtain ⟨rfl, h⟩ := h
            refine V_istore (lo2 := [(6, .int r5), (0, .ref 0), (1, .int a1), (2, .int a2), (3, .int a3), (4, .int a4), (5, .int a5)]) dX7_join_98 (by decide) rfl ?_
            refine V_iload dX7_join_100 rfl ?_
            refine V_iconst (v := (-1)) dX7_join_102 (by decide) ?_
            refine V_icmp_ne 116 dX7_join_103 rfl (fun hc => ?_) (fun hc => ?_)
            · replace h := h.1 hc
              refine V_iload dX7_join_116 rfl ?_
              exact V_iret dX7_join_118 rfl (by decide) (by decide) (Or.inl ⟨_, rfl, rfl, rfl, h⟩)
            · replace h := h.2 hc
              exact V_throw (text := "there are 24 nodes") dX7_join_106 dX7_join_109 dX7_join_110 dX7_join_112 dX7_join_115 rfl (by decide +kernel) (by decide +kernel) rfl (by decide) (by decide) (by decide) (Or.inr ⟨_, rfl, rfl, rfl, h⟩)
          · replace h := h.2 hc
            exact V_throw (text := "it would have more than 6 columns") dX7_join_73 dX7_join_76 dX7_join_77 dX7_join_79 dX7_join_82 rfl (by decide +kernel) (by decide +kernel) rfl (by decide) (by decide) (by decide) (Or.inr ⟨_, rfl, rfl, rfl, h⟩)
        · replace h := h.2 hc
          exact V_throw (text := "kind is out of range") dX7_join_46 dX7_join_49 dX7_join_50 dX7_join_52 dX7_join_55 rfl (by decide +kernel) (by decide +kernel) rfl (by decide) (by decide) (by decide) (Or.inr ⟨_, rfl, rfl, rfl, h⟩)
    · replace h := h.2 hc
      exact V_throw (text := "no such node or column") dX7_join_25 dX7_join_28 dX7_join_29 dX7_join_31 dX7_join_34 rfl (by decide +kernel) (by decide +kernel) rfl (by decide) (by decide) (by decide) (Or.inr ⟨_, rfl, rfl, rfl, h⟩)
def wX7_group (a1 : Int32) (a2 : Int32) (a3 : Int32) (a4 : Int32) (I : QI) (post : Int32 → QI → Prop) (px : String → QI → Prop) : Prop := (wX2_hasColumn a1 a2 I (fun r1 => ((¬ r1 = 0 → ((a3 = 0 → ((a3 < 0 → (px "java/lang/IllegalArgumentException" I)) ∧ (¬ a3 < 0 → ((a3 ≤ 4 → ((¬ a3 = 0 → (wX2_make 3 a1 (-1) a3 a2 a4 I (fun r3 I2 => ((¬ r3 = (-1) → post r3 I2) ∧ (r3 = (-1) → (px "java/lang/IllegalStateException" I2)))))) ∧ (a3 = 0 → ((a4 = 0 → (wX2_make 3 a1 (-1) a3 a2 a4 I (fun r5 I4 => ((¬ r5 = (-1) → post r5 I4) ∧ (r5 = (-1) → (px "java/lang/IllegalStateException" I4)))))) ∧ (¬ a4 = 0 → (px "java/lang/IllegalArgumentException" I)))))) ∧ (¬ a3 ≤ 4 → (px "java/lang/IllegalArgumentException" I)))))) ∧ (¬ a3 = 0 → (wX2_hasColumn a1 a4 I (fun r6 => ((¬ r6 = 0 → ((a3 < 0 → (px "java/lang/IllegalArgumentException" I)) ∧ (¬ a3 < 0 → ((a3 ≤ 4 → ((¬ a3 = 0 → (wX2_make 3 a1 (-1) a3 a2 a4 I (fun r8 I7 => ((¬ r8 = (-1) → post r8 I7) ∧ (r8 = (-1) → (px "java/lang/IllegalStateException" I7)))))) ∧ (a3 = 0 → ((a4 = 0 → (wX2_make 3 a1 (-1) a3 a2 a4 I (fun r10 I9 => ((¬ r10 = (-1) → post r10 I9) ∧ (r10 = (-1) → (px "java/lang/IllegalStateException" I9)))))) ∧ (¬ a4 = 0 → (px "java/lang/IllegalArgumentException" I)))))) ∧ (¬ a3 ≤ 4 → (px "java/lang/IllegalArgumentException" I)))))) ∧ (r6 = 0 → (px "java/lang/IndexOutOfBoundsException" I)))))))) ∧ (r1 = 0 → (px "java/lang/IndexOutOfBoundsException" I)))))
set_option maxRecDepth 100000 in
set_option maxHeartbeats 4000000 in
theorem s_mX7_group {X : QX} {S : QS} {a1 : Int32} {a2 : Int32} {a3 : Int32} {a4 : Int32} {I : QI} {J : QJ} {post : Int32 → QI → Prop} {px : String → QI → Prop} (hS : Sh S) (h : wX7_group a1 a2 a3 a4 I post px) : CX X mX7_group 3 1 6 [.ref 0, .int a1, .int a2, .int a3, .int a4] S I J (q_Px S (fun r I2 J2 => J = J2 ∧ post r I2) (fun E I2 J2 => J = J2 ∧ px E I2)) := by
  refine CX.of (lo := [(0, .ref 0), (1, .int a1), (2, .int a2), (3, .int a3), (4, .int a4)]) ok_mX7_group rfl (Nat.le_of_ble_eq_true rfl) rfl ?_
  replace h : (wX2_hasColumn a1 a2 I (fun r1 => ((¬ r1 = 0 → ((a3 = 0 → ((a3 < 0 → (px "java/lang/IllegalArgumentException" I)) ∧ (¬ a3 < 0 → ((a3 ≤ 4 → ((¬ a3 = 0 → (wX2_make 3 a1 (-1) a3 a2 a4 I (fun r3 I2 => ((¬ r3 = (-1) → post r3 I2) ∧ (r3 = (-1) → (px "java/lang/IllegalStateException" I2)))))) ∧ (a3 = 0 → ((a4 = 0 → (wX2_make 3 a1 (-1) a3 a2 a4 I (fun r5 I4 => ((¬ r5 = (-1) → post r5 I4) ∧ (r5 = (-1) → (px "java/lang/IllegalStateException" I4)))))) ∧ (¬ a4 = 0 → (px "java/lang/IllegalArgumentException" I)))))) ∧ (¬ a3 ≤ 4 → (px "java/lang/IllegalArgumentException" I)))))) ∧ (¬ a3 = 0 → (wX2_hasColumn a1 a4 I (fun r6 => ((¬ r6 = 0 → ((a3 < 0 → (px "java/lang/IllegalArgumentException" I)) ∧ (¬ a3 < 0 → ((a3 ≤ 4 → ((¬ a3 = 0 → (wX2_make 3 a1 (-1) a3 a2 a4 I (fun r8 I7 => ((¬ r8 = (-1) → post r8 I7) ∧ (r8 = (-1) → (px "java/lang/IllegalStateException" I7)))))) ∧ (a3 = 0 → ((a4 = 0 → (wX2_make 3 a1 (-1) a3 a2 a4 I (fun r10 I9 => ((¬ r10 = (-1) → post r10 I9) ∧ (r10 = (-1) → (px "java/lang/IllegalStateException" I9)))))) ∧ (¬ a4 = 0 → (px "java/lang/IllegalArgumentException" I)))))) ∧ (¬ a3 ≤ 4 → (px "java/lang/IllegalArgumentException" I)))))) ∧ (r6 = 0 → (px "java/lang/IndexOutOfBoundsException" I)))))))) ∧ (r1 = 0 → (px "java/lang/IndexOutOfBoundsException" I))))) := h
  refine V_aload_n dX7_group_0 rfl rfl ?_
  refine V_getr dX7_group_1 fl_RX7_21 (hS.n 0 rfl) (hS.k 0 7 rfl) rfl (hS.r 0 1 15 rfl) ?_
  refine V_iload_n dX7_group_4 rfl rfl ?_
  refine V_iload_n dX7_group_5 rfl rfl ?_
  refine V_callVi (st := []) [.int a1, .int a2] dX7_group_6 ok_mX2_hasColumn rfl ml_RX7_128 in_mX2_hasColumn se_mX2_hasColumn (hS.n 15 rfl) (hS.k 15 2 rfl) (by decide) rfl (Nat.le_of_ble_eq_true rfl) (by decide) (by decide) (by decide) (s_mX2_hasColumn hS h) (fun r1 I9 J9 h => ?_)
  obtain ⟨rfl, rfl, h⟩ := h
  refine V_if_ne 22 dX7_group_9 rfl (fun hc => ?_) (fun hc => ?_)
  · replace h := h.1 hc
    refine V_iload_n dX7_group_22 rfl rfl ?_
    refine V_if_eq 49 dX7_group_23 rfl (fun hc => ?_) (fun hc => ?_)
    · replace h := h.1 hc
      refine V_iload_n dX7_group_49 rfl rfl ?_
      refine V_if_lt 58 dX7_group_50 rfl (fun hc => ?_) (fun hc => ?_)
      · replace h := h.1 hc
        exact V_throw (text := "kind is out of range") dX7_group_58 dX7_group_61 dX7_group_62 dX7_group_64 dX7_group_67 rfl (by decide +kernel) (by decide +kernel) rfl (by decide) (by decide) (by decide) (Or.inr ⟨_, rfl, rfl, rfl, h⟩)
      · replace h := h.2 hc
        refine V_iload_n dX7_group_53 rfl rfl ?_
        refine V_iconst (v := 4) dX7_group_54 (by decide) ?_
        refine V_icmp_le 68 dX7_group_55 rfl (fun hc => ?_) (fun hc => ?_)
        · replace h := h.1 hc
          refine V_iload_n dX7_group_68 rfl rfl ?_
          refine V_if_ne 87 dX7_group_69 rfl (fun hc => ?_) (fun hc => ?_)
          · replace h := h.1 hc
            refine V_aload_n dX7_group_87 rfl rfl ?_
            refine V_getr dX7_group_88 fl_RX7_21 (hS.n 0 rfl) (hS.k 0 7 rfl) rfl (hS.r 0 1 15 rfl) ?_
            refine V_iconst (v := 3) dX7_group_91 (by decide) ?_
            refine V_iload_n dX7_group_92 rfl rfl ?_
            refine V_iconst (v := (-1)) dX7_group_93 (by decide) ?_
            refine V_iload_n dX7_group_94 rfl rfl ?_
            refine V_iload_n dX7_group_95 rfl rfl ?_
            refine V_iload dX7_group_96 rfl ?_
            refine V_callVi (st := []) [.int 3, .int a1, .int (-1), .int a3, .int a2, .int a4] dX7_group_98 ok_mX2_make rfl ml_RX7_122 in_mX2_make se_mX2_make (hS.n 15 rfl) (hS.k 15 2 rfl) (by decide) rfl (Nat.le_of_ble_eq_true rfl) (by decide) (by decide) (by decide) (s_mX2_make hS h) (fun r3 I2 J9 h => ?_)
            obtain ⟨rfl, h⟩ := h
            refine V_istore (lo2 := [(5, .int r3), (0, .ref 0), (1, .int a1), (2, .int a2), (3, .int a3), (4, .int a4)]) dX7_group_101 (by decide) rfl ?_
            refine V_iload dX7_group_103 rfl ?_
            refine V_iconst (v := (-1)) dX7_group_105 (by decide) ?_
            refine V_icmp_ne 119 dX7_group_106 rfl (fun hc => ?_) (fun hc => ?_)
            · replace h := h.1 hc
              refine V_iload dX7_group_119 rfl ?_
              exact V_iret dX7_group_121 rfl (by decide) (by decide) (Or.inl ⟨_, rfl, rfl, rfl, h⟩)
            · replace h := h.2 hc
              exact V_throw (text := "there are 24 nodes") dX7_group_109 dX7_group_112 dX7_group_113 dX7_group_115 dX7_group_118 rfl (by decide +kernel) (by decide +kernel) rfl (by decide) (by decide) (by decide) (Or.inr ⟨_, rfl, rfl, rfl, h⟩)
          · replace h := h.2 hc
            refine V_iload dX7_group_72 rfl ?_
            refine V_if_eq 87 dX7_group_74 rfl (fun hc => ?_) (fun hc => ?_)
            · replace h := h.1 hc
              refine V_aload_n dX7_group_87 rfl rfl ?_
              refine V_getr dX7_group_88 fl_RX7_21 (hS.n 0 rfl) (hS.k 0 7 rfl) rfl (hS.r 0 1 15 rfl) ?_
              refine V_iconst (v := 3) dX7_group_91 (by decide) ?_
              refine V_iload_n dX7_group_92 rfl rfl ?_
              refine V_iconst (v := (-1)) dX7_group_93 (by decide) ?_
              refine V_iload_n dX7_group_94 rfl rfl ?_
              refine V_iload_n dX7_group_95 rfl rfl ?_
              refine V_iload dX7_group_96 rfl ?_
              refine V_callVi (st := []) [.int 3, .int a1, .int (-1), .int a3, .int a2, .int a4] dX7_group_98 ok_mX2_make rfl ml_RX7_122 in_mX2_make se_mX2_make (hS.n 15 rfl) (hS.k 15 2 rfl) (by decide) rfl (Nat.le_of_ble_eq_true rfl) (by decide) (by decide) (by decide) (s_mX2_make hS h) (fun r5 I4 J9 h => ?_)
              obtain ⟨rfl, h⟩ := h
              refine V_istore (lo2 := [(5, .int r5), (0, .ref 0), (1, .int a1), (2, .int a2), (3, .int a3), (4, .int a4)]) dX7_group_101 (by decide) rfl ?_
              refine V_iload dX7_group_103 rfl ?_
              refine V_iconst (v := (-1)) dX7_group_105 (by decide) ?_
              refine V_icmp_ne 119 dX7_group_106 rfl (fun hc => ?_) (fun hc => ?_)
              · replace h := h.1 hc
                refine V_iload dX7_group_119 rfl ?_
                exact V_iret dX7_group_121 rfl (by decide) (by decide) (Or.inl ⟨_, rfl, rfl, rfl, h⟩)
              · replace h := h.2 hc
                exact V_throw (text := "there are 24 nodes") dX7_group_109 dX7_group_112 dX7_group_113 dX7_group_115 dX7_group_118 rfl (by decide +kernel) (by decide +kernel) rfl (by decide) (by decide) (by decide) (Or.inr ⟨_, rfl, rfl, rfl, h⟩)
            · replace h := h.2 hc
              exact V_throw (text := "column is 0 for this kind") dX7_group_77 dX7_group_80 dX7_group_81 dX7_group_83 dX7_group_86 rfl (by decide +kernel) (by decide +kernel) rfl (by decide) (by decide) (by decide) (Or.inr ⟨_, rfl, rfl, rfl, h⟩)
        · replace h := h.2 hc
          exact V_throw (text := "kind is out of range") dX7_group_58 dX7_group_61 dX7_group_62 dX7_group_64 dX7_group_67 rfl (by decide +kernel) (by decide +kernel) rfl (by decide) (by decide) (by decide) (Or.inr ⟨_, rfl, rfl, rfl, h⟩)
    · replace h := h.2 hc
      refine V_aload_n dX7_group_26 rfl rfl ?_
      refine V_getr dX7_group_27 fl_RX7_21 (hS.n 0 rfl) (hS.k 0 7 rfl) rfl (hS.r 0 1 15 rfl) ?_
      refine V_iload_n dX7_group_30 rfl rfl ?_
      refine V_iload dX7_group_31 rfl ?_
      refine V_callVi (st := []) [.int a1, .int a4] dX7_group_33 ok_mX2_hasColumn rfl ml_RX7_128 in_mX2_hasColumn se_mX2_hasColumn (hS.n 15 rfl) (hS.k 15 2 rfl) (by decide) rfl (Nat.le_of_ble_eq_true rfl) (by decide) (by decide) (by decide) (s_mX2_hasColumn hS h) (fun r6 I9 J9 h => ?_)
      obtain ⟨rfl, rfl, h⟩ := h
      refine V_if_ne 49 dX7_group_36 rfl (fun hc => ?_) (fun hc => ?_)
      · replace h := h.1 hc
        refine V_iload_n dX7_group_49 rfl rfl ?_
        refine V_if_lt 58 dX7_group_50 rfl (fun hc => ?_) (fun hc => ?_)
        · replace h := h.1 hc
          exact V_throw (text := "kind is out of range") dX7_group_58 dX7_group_61 dX7_group_62 dX7_group_64 dX7_group_67 rfl (by decide +kernel) (by decide +kernel) rfl (by decide) (by decide) (by decide) (Or.inr ⟨_, rfl, rfl, rfl, h⟩)
        · replace h := h.2 hc
          refine V_iload_n dX7_group_53 rfl rfl ?_
          refine V_iconst (v := 4) dX7_group_54 (by decide) ?_
          refine V_icmp_le 68 dX7_group_55 rfl (fun hc => ?_) (fun hc => ?_)
          · replace h := h.1 hc
            refine V_iload_n dX7_group_68 rfl rfl ?_
            refine V_if_ne 87 dX7_group_69 rfl (fun hc => ?_) (fun hc => ?_)
            · replace h := h.1 hc
              refine V_aload_n dX7_group_87 rfl rfl ?_
              refine V_getr dX7_group_88 fl_RX7_21 (hS.n 0 rfl) (hS.k 0 7 rfl) rfl (hS.r 0 1 15 rfl) ?_
              refine V_iconst (v := 3) dX7_group_91 (by decide) ?_
              refine V_iload_n dX7_group_92 rfl rfl ?_
              refine V_iconst (v := (-1)) dX7_group_93 (by decide) ?_
              refine V_iload_n dX7_group_94 rfl rfl ?_
              refine V_iload_n dX7_group_95 rfl rfl ?_
              refine V_iload dX7_group_96 rfl ?_
              refine V_callVi (st := []) [.int 3, .int a1, .int (-1), .int a3, .int a2, .int a4] dX7_group_98 ok_mX2_make rfl ml_RX7_122 in_mX2_make se_mX2_make (hS.n 15 rfl) (hS.k 15 2 rfl) (by decide) rfl (Nat.le_of_ble_eq_true rfl) (by decide) (by decide) (by decide) (s_mX2_make hS h) (fun r8 I7 J9 h => ?_)
              obtain ⟨rfl, h⟩ := h
              refine V_istore (lo2 := [(5, .int r8), (0, .ref 0), (1, .int a1), (2, .int a2), (3, .int a3), (4, .int a4)]) dX7_group_101 (by decide) rfl ?_
              refine V_iload dX7_group_103 rfl ?_
              refine V_iconst (v := (-1)) dX7_group_105 (by decide) ?_
              refine V_icmp_ne 119 dX7_group_106 rfl (fun hc => ?_) (fun hc => ?_)
              · replace h := h.1 hc
                refine V_iload dX7_group_119 rfl ?_
                exact V_iret dX7_group_121 rfl (by decide) (by decide) (Or.inl ⟨_, rfl, rfl, rfl, h⟩)
              · replace h := h.2 hc
                exact V_throw (text := "there are 24 nodes") dX7_group_109 dX7_group_112 dX7_group_113 dX7_group_115 dX7_group_118 rfl (by decide +kernel) (by decide +kernel) rfl (by decide) (by decide) (by decide) (Or.inr ⟨_, rfl, rfl, rfl, h⟩)
            · replace h := h.2 hc
              refine V_iload dX7_group_72 rfl ?_
              refine V_if_eq 87 dX7_group_74 rfl (fun hc => ?_) (fun hc => ?_)
              · replace h := h.1 hc
                refine V_aload_n dX7_group_87 rfl rfl ?_
                refine V_getr dX7_group_88 fl_RX7_21 (hS.n 0 rfl) (hS.k 0 7 rfl) rfl (hS.r 0 1 15 rfl) ?_
                refine V_iconst (v := 3) dX7_group_91 (by decide) ?_
                refine V_iload_n dX7_group_92 rfl rfl ?_
                refine V_iconst (v := (-1)) dX7_group_93 (by decide) ?_
                refine V_iload_n dX7_group_94 rfl rfl ?_
                refine V_iload_n dX7_group_95 rfl rfl ?_
                refine V_iload dX7_group_96 rfl ?_
                refine V_callVi (st := []) [.int 3, .int a1, .int (-1), .int a3, .int a2, .int a4] dX7_group_98 ok_mX2_make rfl ml_RX7_122 in_mX2_make se_mX2_make (hS.n 15 rfl) (hS.k 15 2 rfl) (by decide) rfl (Nat.le_of_ble_eq_true rfl) (by decide) (by decide) (by decide) (s_mX2_make hS h) (fun r10 I9 J9 h => ?_)
                obtain ⟨rfl, h⟩ := h
                refine V_istore (lo2 := [(5, .int r10), (0, .ref 0), (1, .int a1), (2, .int a2), (3, .int a3), (4, .int a4)]) dX7_group_101 (by decide) rfl ?_
                refine V_iload dX7_group_103 rfl ?_
                refine V_iconst (v := (-1)) dX7_group_105 (by decide) ?_
                refine V_icmp_ne 119 dX7_group_106 rfl (fun hc => ?_) (fun hc => ?_)
                · replace h := h.1 hc
                  refine V_iload dX7_group_119 rfl ?_
                  exact V_iret dX7_group_121 rfl (by decide) (by decide) (Or.inl ⟨_, rfl, rfl, rfl, h⟩)
                · replace h := h.2 hc
                  exact V_throw (text := "there are 24 nodes") dX7_group_109 dX7_group_112 dX7_group_113 dX7_group_115 dX7_group_118 rfl (by decide +kernel) (by decide +kernel) rfl (by decide) (by decide) (by decide) (Or.inr ⟨_, rfl, rfl, rfl, h⟩)
              · replace h := h.2 hc
                exact V_throw (text := "column is 0 for this kind") dX7_group_77 dX7_group_80 dX7_group_81 dX7_group_83 dX7_group_86 rfl (by decide +kernel) (by decide +kernel) rfl (by decide) (by decide) (by decide) (Or.inr ⟨_, rfl, rfl, rfl, h⟩)
          · replace h := h.2 hc
            exact V_throw (text := "kind is out of range") dX7_group_58 dX7_group_61 dX7_group_62 dX7_group_64 dX7_group_67 rfl (by decide +kernel) (by decide +kernel) rfl (by decide) (by decide) (by decide) (Or.inr ⟨_, rfl, rfl, rfl, h⟩)
      · replace h := h.2 hc
        exact V_throw (text := "no such second column") dX7_group_39 dX7_group_42 dX7_group_43 dX7_group_45 dX7_group_48 rfl (by decide +kernel) (by decide +kernel) rfl (by decide) (by decide) (by decide) (Or.inr ⟨_, rfl, rfl, rfl, h⟩)
  · replace h := h.2 hc
    exact V_throw (text := "no such node or column") dX7_group_12 dX7_group_15 dX7_group_16 dX7_group_18 dX7_group_21 rfl (by decide +kernel) (by decide +kernel) rfl (by decide) (by decide) (by decide) (Or.inr ⟨_, rfl, rfl, rfl, h⟩)
def wX7_bag (a1 : Int32) (a2 : Int32) (a3 : Int32) (I : QI) (post : Int32 → QI → Prop) (px : String → QI → Prop) : Prop := (wX2_has a1 I (fun r1 => ((r1 = 0 → (px "java/lang/IndexOutOfBoundsException" I)) ∧ (¬ r1 = 0 → (wX2_has a2 I (fun r2 => ((¬ r2 = 0 → ((a3 < 0 → (px "java/lang/IllegalArgumentException" I)) ∧ (¬ a3 < 0 → ((a3 ≤ 3 → (wX2_widthOf a1 I (fun r3 => (wX2_widthOf a2 I (fun r4 => ((r3 = r4 → (wX2_make 4 a1 a2 a3 0 0 I (fun r6 I5 => ((¬ r6 = (-1) → post r6 I5) ∧ (r6 = (-1) → (px "java/lang/IllegalStateException" I5)))))) ∧ (¬ r3 = r4 → (px "java/lang/IllegalStateException" I)))))))) ∧ (¬ a3 ≤ 3 → (px "java/lang/IllegalArgumentException" I)))))) ∧ (r2 = 0 → (px "java/lang/IndexOutOfBoundsException" I)))))))))
set_option maxRecDepth 100000 in
set_option maxHeartbeats 4000000 in
theorem s_mX7_bag {X : QX} {S : QS} {a1 : Int32} {a2 : Int32} {a3 : Int32} {I : QI} {J : QJ} {post : Int32 → QI → Prop} {px : String → QI → Prop} (hS : Sh S) (h : wX7_bag a1 a2 a3 I post px) : CX X mX7_bag 3 1 6 [.ref 0, .int a1, .int a2, .int a3] S I J (q_Px S (fun r I2 J2 => J = J2 ∧ post r I2) (fun E I2 J2 => J = J2 ∧ px E I2)) := by
  refine CX.of (lo := [(0, .ref 0), (1, .int a1), (2, .int a2), (3, .int a3)]) ok_mX7_bag rfl (Nat.le_of_ble_eq_true rfl) rfl ?_
  replace h : (wX2_has a1 I (fun r1 => ((r1 = 0 → (px "java/lang/IndexOutOfBoundsException" I)) ∧ (¬ r1 = 0 → (wX2_has a2 I (fun r2 => ((¬ r2 = 0 → ((a3 < 0 → (px "java/lang/IllegalArgumentException" I)) ∧ (¬ a3 < 0 → ((a3 ≤ 3 → (wX2_widthOf a1 I (fun r3 => (wX2_widthOf a2 I (fun r4 => ((r3 = r4 → (wX2_make 4 a1 a2 a3 0 0 I (fun r6 I5 => ((¬ r6 = (-1) → post r6 I5) ∧ (r6 = (-1) → (px "java/lang/IllegalStateException" I5)))))) ∧ (¬ r3 = r4 → (px "java/lang/IllegalStateException" I)))))))) ∧ (¬ a3 ≤ 3 → (px "java/lang/IllegalArgumentException" I)))))) ∧ (r2 = 0 → (px "java/lang/IndexOutOfBoundsException" I))))))))) := h
  refine V_aload_n dX7_bag_0 rfl rfl ?_
  refine V_getr dX7_bag_1 fl_RX7_21 (hS.n 0 rfl) (hS.k 0 7 rfl) rfl (hS.r 0 1 15 rfl) ?_
  refine V_iload_n dX7_bag_4 rfl rfl ?_
  refine V_callVi (st := []) [.int a1] dX7_bag_5 ok_mX2_has rfl ml_RX7_153 in_mX2_has se_mX2_has (hS.n 15 rfl) (hS.k 15 2 rfl) (by decide) rfl (Nat.le_of_ble_eq_true rfl) (by decide) (by decide) (by decide) (s_mX2_has hS h) (fun r1 I9 J9 h => ?_)
  obtain ⟨rfl, rfl, h⟩ := h
  refine V_if_eq 22 dX7_bag_8 rfl (fun hc => ?_) (fun hc => ?_)
  · replace h := h.1 hc
    exact V_throw (text := "no such node") dX7_bag_22 dX7_bag_25 dX7_bag_26 dX7_bag_28 dX7_bag_31 rfl (by decide +kernel) (by decide +kernel) rfl (by decide) (by decide) (by decide) (Or.inr ⟨_, rfl, rfl, rfl, h⟩)
  · replace h := h.2 hc
    refine V_aload_n dX7_bag_11 rfl rfl ?_
    refine V_getr dX7_bag_12 fl_RX7_21 (hS.n 0 rfl) (hS.k 0 7 rfl) rfl (hS.r 0 1 15 rfl) ?_
    refine V_iload_n dX7_bag_15 rfl rfl ?_
    refine V_callVi (st := []) [.int a2] dX7_bag_16 ok_mX2_has rfl ml_RX7_153 in_mX2_has se_mX2_has (hS.n 15 rfl) (hS.k 15 2 rfl) (by decide) rfl (Nat.le_of_ble_eq_true rfl) (by decide) (by decide) (by decide) (s_mX2_has hS h) (fun r2 I9 J9 h => ?_)
    obtain ⟨rfl, rfl, h⟩ := h
    refine V_if_ne 32 dX7_bag_19 rfl (fun hc => ?_) (fun hc => ?_)
    · replace h := h.1 hc
      refine V_iload_n dX7_bag_32 rfl rfl ?_
      refine V_if_lt 41 dX7_bag_33 rfl (fun hc => ?_) (fun hc => ?_)
      · replace h := h.1 hc
        exact V_throw (text := "kind is out of range") dX7_bag_41 dX7_bag_44 dX7_bag_45 dX7_bag_47 dX7_bag_50 rfl (by decide +kernel) (by decide +kernel) rfl (by decide) (by decide) (by decide) (Or.inr ⟨_, rfl, rfl, rfl, h⟩)
      · replace h := h.2 hc
        refine V_iload_n dX7_bag_36 rfl rfl ?_
        refine V_iconst (v := 3) dX7_bag_37 (by decide) ?_
        refine V_icmp_le 51 dX7_bag_38 rfl (fun hc => ?_) (fun hc => ?_)
        · replace h := h.1 hc
          refine V_aload_n dX7_bag_51 rfl rfl ?_
          refine V_getr dX7_bag_52 fl_RX7_21 (hS.n 0 rfl) (hS.k 0 7 rfl) rfl (hS.r 0 1 15 rfl) ?_
          refine V_iload_n dX7_bag_55 rfl rfl ?_
          refine V_callVi (st := []) [.int a1] dX7_bag_56 ok_mX2_widthOf rfl ml_RX7_158 in_mX2_widthOf se_mX2_widthOf (hS.n 15 rfl) (hS.k 15 2 rfl) (by decide) rfl (Nat.le_of_ble_eq_true rfl) (by decide) (by decide) (by decide) (s_mX2_widthOf hS h) (fun r3 I9 J9 h => ?_)
          obtain ⟨rfl, rfl, h⟩ := h
          refine V_aload_n dX7_bag_59 rfl rfl ?_
          refine V_getr dX7_bag_60 fl_RX7_21 (hS.n 0 rfl) (hS.k 0 7 rfl) rfl (hS.r 0 1 15 rfl) ?_
          refine V_iload_n dX7_bag_63 rfl rfl ?_
          refine V_callVi (st := [.int r3]) [.int a2] dX7_bag_64 ok_mX2_widthOf rfl ml_RX7_158 in_mX2_widthOf se_mX2_widthOf (hS.n 15 rfl) (hS.k 15 2 rfl) (by decide) rfl (Nat.le_of_ble_eq_true rfl) (by decide) (by decide) (by decide) (s_mX2_widthOf hS h) (fun r4 I9 J9 h => ?_)
          obtain ⟨rfl, rfl, h⟩ := h
          refine V_icmp_eq 80 dX7_bag_67 rfl (fun hc => ?_) (fun hc => ?_)
          · replace h := h.1 hc
            refine V_aload_n dX7_bag_80 rfl rfl ?_
            refine V_getr dX7_bag_81 fl_RX7_21 (hS.n 0 rfl) (hS.k 0 7 rfl) rfl (hS.r 0 1 15 rfl) ?_
            refine V_iconst (v := 4) dX7_bag_84 (by decide) ?_
            refine V_iload_n dX7_bag_85 rfl rfl ?_
            refine V_iload_n dX7_bag_86 rfl rfl ?_
            refine V_iload_n dX7_bag_87 rfl rfl ?_
            refine V_iconst (v := 0) dX7_bag_88 (by decide) ?_
            refine V_iconst (v := 0) dX7_bag_89 (by decide) ?_
            refine V_callVi (st := []) [.int 4, .int a1, .int a2, .int a3, .int 0, .int 0] dX7_bag_90 ok_mX2_make rfl ml_RX7_122 in_mX2_make se_mX2_make (hS.n 15 rfl) (hS.k 15 2 rfl) (by decide) rfl (Nat.le_of_ble_eq_true rfl) (by decide) (by decide) (by decide) (s_mX2_make hS h) (fun r6 I5 J9 h => ?_)
            obtain ⟨rfl, h⟩ := h
            refine V_istore (lo2 := [(4, .int r6), (0, .ref 0), (1, .int a1), (2, .int a2), (3, .int a3)]) dX7_bag_93 (by decide) rfl ?_
            refine V_iload dX7_bag_95 rfl ?_
            refine V_iconst (v := (-1)) dX7_bag_97 (by decide) ?_
            refine V_icmp_ne 111 dX7_bag_98 rfl (fun hc => ?_) (fun hc => ?_)
            · replace h := h.1 hc
              refine V_iload dX7_bag_111 rfl ?_
              exact V_iret dX7_bag_113 rfl (by decide) (by decide) (Or.inl ⟨_, rfl, rfl, rfl, h⟩)
            · replace h := h.2 hc
              exact V_throw (text := "there are 24 nodes") dX7_bag_101 dX7_bag_104 dX7_bag_105 dX7_bag_107 dX7_bag_110 rfl (by decide +kernel) (by decide +kernel) rfl (by decide) (by decide) (by decide) (Or.inr ⟨_, rfl, rfl, rfl, h⟩)
          · replace h := h.2 hc
            exact V_throw (text := "the nodes have unlike numbers of columns") dX7_bag_70 dX7_bag_73 dX7_bag_74 dX7_bag_76 dX7_bag_79 rfl (by decide +kernel) (by decide +kernel) rfl (by decide) (by decide) (by decide) (Or.inr ⟨_, rfl, rfl, rfl, h⟩)
        · replace h := h.2 hc
          exact V_throw (text := "kind is out of range") dX7_bag_41 dX7_bag_44 dX7_bag_45 dX7_bag_47 dX7_bag_50 rfl (by decide +kernel) (by decide +kernel) rfl (by decide) (by decide) (by decide) (Or.inr ⟨_, rfl, rfl, rfl, h⟩)
    · replace h := h.2 hc
      exact V_throw (text := "no such node") dX7_bag_22 dX7_bag_25 dX7_bag_26 dX7_bag_28 dX7_bag_31 rfl (by decide +kernel) (by decide +kernel) rfl (by decide) (by decide) (by decide) (Or.inr ⟨_, rfl, rfl, rfl, h⟩)
def wX7_rows (a1 : Int32) (I : QI) (post : Int32 → QI → Prop) (px : String → QI → Prop) : Prop := (wX2_has a1 I (fun r1 => ((¬ r1 = 0 → (wX0_isPossible a1 (I 0 6) I (fun r3 I2 => ((¬ r3 = 0 → (wX0_countOf a1 I2 (fun r4 => post r4 I2))) ∧ (r3 = 0 → (px "java/lang/IllegalStateException" I2)))))) ∧ (r1 = 0 → (px "java/lang/IndexOutOfBoundsException" I)))))
set_option maxRecDepth 100000 in
set_option maxHeartbeats 4000000 in
theorem s_mX7_rows {X : QX} {S : QS} {a1 : Int32} {I : QI} {J : QJ} {post : Int32 → QI → Prop} {px : String → QI → Prop} (hS : Sh S) (h : wX7_rows a1 I post px) : CX X mX7_rows 7 1 6 [.ref 0, .int a1] S I J (q_Px S (fun r I2 J2 => J = J2 ∧ post r I2) (fun E I2 J2 => J = J2 ∧ px E I2)) := by
  refine CX.of (lo := [(0, .ref 0), (1, .int a1)]) ok_mX7_rows rfl (Nat.le_of_ble_eq_true rfl) rfl ?_
  replace h : (wX2_has a1 I (fun r1 => ((¬ r1 = 0 → (wX0_isPossible a1 (I 0 6) I (fun r3 I2 => ((¬ r3 = 0 → (wX0_countOf a1 I2 (fun r4 => post r4 I2))) ∧ (r3 = 0 → (px "java/lang/IllegalStateException" I2)))))) ∧ (r1 = 0 → (px "java/lang/IndexOutOfBoundsException" I))))) := h
  refine V_aload_n dX7_rows_0 rfl rfl ?_
  refine V_getr dX7_rows_1 fl_RX7_21 (hS.n 0 rfl) (hS.k 0 7 rfl) rfl (hS.r 0 1 15 rfl) ?_
  refine V_iload_n dX7_rows_4 rfl rfl ?_
  refine V_callVi (st := []) [.int a1] dX7_rows_5 ok_mX2_has rfl ml_RX7_153 in_mX2_has se_mX2_has (hS.n 15 rfl) (hS.k 15 2 rfl) (by decide) rfl (Nat.le_of_ble_eq_true rfl) (by decide) (by decide) (by decide) (s_mX2_has hS h) (fun r1 I9 J9 h => ?_)
  obtain ⟨rfl, rfl, h⟩ := h
  refine V_if_ne 21 dX7_rows_8 rfl (fun hc => ?_) (fun hc => ?_)
  · replace h := h.1 hc
    refine V_aload_n dX7_rows_21 rfl rfl ?_
    refine V_getr dX7_rows_22 fl_RX7_30 (hS.n 0 rfl) (hS.k 0 7 rfl) rfl (hS.r 0 2 23 rfl) ?_
    refine V_iload_n dX7_rows_25 rfl rfl ?_
    refine V_aload_n dX7_rows_26 rfl rfl ?_
    refine V_geti dX7_rows_27 fl_RX7_58 (hS.n 0 rfl) (hS.k 0 7 rfl) rfl ?_
    refine V_callVi (st := []) [.int a1, .int (I 0 6)] dX7_rows_30 ok_mX0_isPossible rfl ml_RX7_163 in_mX0_isPossible se_mX0_isPossible (hS.n 23 rfl) (hS.k 23 0 rfl) (by decide) rfl (Nat.le_of_ble_eq_true rfl) (by decide) (by decide) (by decide) (s_mX0_isPossible hS h) (fun r3 I2 J9 h => ?_)
    obtain ⟨rfl, h⟩ := h
    refine V_if_ne 46 dX7_rows_33 rfl (fun hc => ?_) (fun hc => ?_)
    · replace h := h.1 hc
      refine V_aload_n dX7_rows_46 rfl rfl ?_
      refine V_getr dX7_rows_47 fl_RX7_30 (hS.n 0 rfl) (hS.k 0 7 rfl) rfl (hS.r 0 2 23 rfl) ?_
      refine V_iload_n dX7_rows_50 rfl rfl ?_
      refine V_callVi (st := []) [.int a1] dX7_rows_51 ok_mX0_countOf rfl ml_RX7_168 in_mX0_countOf se_mX0_countOf (hS.n 23 rfl) (hS.k 23 0 rfl) (by decide) rfl (Nat.le_of_ble_eq_true rfl) (by decide) (by decide) (by decide) (s_mX0_countOf hS h) (fun r4 I9 J9 h => ?_)
      obtain ⟨rfl, rfl, h⟩ := h
      exact V_iret dX7_rows_54 rfl (by decide) (by decide) (Or.inl ⟨_, rfl, rfl, rfl, h⟩)
    · replace h := h.2 hc
      exact V_throw (text := "too many rows or steps") dX7_rows_36 dX7_rows_39 dX7_rows_40 dX7_rows_42 dX7_rows_45 rfl (by decide +kernel) (by decide +kernel) rfl (by decide) (by decide) (by decide) (Or.inr ⟨_, rfl, rfl, rfl, h⟩)
  · replace h := h.2 hc
    exact V_throw (text := "no such node") dX7_rows_11 dX7_rows_14 dX7_rows_15 dX7_rows_17 dX7_rows_20 rfl (by decide +kernel) (by decide +kernel) rfl (by decide) (by decide) (by decide) (Or.inr ⟨_, rfl, rfl, rfl, h⟩)
def wX7_cell (a1 : Int32) (a2 : Int32) (a3 : Int32) (I : QI) (post : Int32 → QI → Prop) (px : String → QI → Prop) : Prop := (wX2_hasColumn a1 a3 I (fun r1 => ((r1 = 0 → (px "java/lang/IndexOutOfBoundsException" I)) ∧ (¬ r1 = 0 → ((0 ≤ a2 → (wX0_isPossible a1 (I 0 6) I (fun r3 I2 => ((¬ r3 = 0 → (wX0_countOf a1 I2 (fun r4 => ((a2 < r4 → (wX0_valueAt a1 a2 a3 I2 (fun r5 => post r5 I2))) ∧ (¬ a2 < r4 → (px "java/lang/IndexOutOfBoundsException" I2)))))) ∧ (r3 = 0 → (px "java/lang/IllegalStateException" I2)))))) ∧ (¬ 0 ≤ a2 → (px "java/lang/IndexOutOfBoundsException" I)))))))
set_option maxRecDepth 100000 in
set_option maxHeartbeats 4000000 in
theorem s_mX7_cell {X : QX} {S : QS} {a1 : Int32} {a2 : Int32} {a3 : Int32} {I : QI} {J : QJ} {post : Int32 → QI → Prop} {px : String → QI → Prop} (hS : Sh S) (h : wX7_cell a1 a2 a3 I post px) : CX X mX7_cell 7 1 6 [.ref 0, .int a1, .int a2, .int a3] S I J (q_Px S (fun r I2 J2 => J = J2 ∧ post r I2) (fun E I2 J2 => J = J2 ∧ px E I2)) := by
  refine CX.of (lo := [(0, .ref 0), (1, .int a1), (2, .int a2), (3, .int a3)]) ok_mX7_cell rfl (Nat.le_of_ble_eq_true rfl) rfl ?_
  replace h : (wX2_hasColumn a1 a3 I (fun r1 => ((r1 = 0 → (px "java/lang/IndexOutOfBoundsException" I)) ∧ (¬ r1 = 0 → ((0 ≤ a2 → (wX0_isPossible a1 (I 0 6) I (fun r3 I2 => ((¬ r3 = 0 → (wX0_countOf a1 I2 (fun r4 => ((a2 < r4 → (wX0_valueAt a1 a2 a3 I2 (fun r5 => post r5 I2))) ∧ (¬ a2 < r4 → (px "java/lang/IndexOutOfBoundsException" I2)))))) ∧ (r3 = 0 → (px "java/lang/IllegalStateException" I2)))))) ∧ (¬ 0 ≤ a2 → (px "java/lang/IndexOutOfBoundsException" I))))))) := h
  refine V_aload_n dX7_cell_0 rfl rfl ?_
  refine V_getr dX7_cell_1 fl_RX7_21 (hS.n 0 rfl) (hS.k 0 7 rfl) rfl (hS.r 0 1 15 rfl) ?_
  refine V_iload_n dX7_cell_4 rfl rfl ?_
  refine V_iload_n dX7_cell_5 rfl rfl ?_
  refine V_callVi (st := []) [.int a1, .int a3] dX7_cell_6 ok_mX2_hasColumn rfl ml_RX7_128 in_mX2_hasColumn se_mX2_hasColumn (hS.n 15 rfl) (hS.k 15 2 rfl) (by decide) rfl (Nat.le_of_ble_eq_true rfl) (by decide) (by decide) (by decide) (s_mX2_hasColumn hS h) (fun r1 I9 J9 h => ?_)
  obtain ⟨rfl, rfl, h⟩ := h
  refine V_if_eq 16 dX7_cell_9 rfl (fun hc => ?_) (fun hc => ?_)
  · replace h := h.1 hc
    exact V_throw (text := "no such node, column or row") dX7_cell_16 dX7_cell_19 dX7_cell_20 dX7_cell_22 dX7_cell_25 rfl (by decide +kernel) (by decide +kernel) rfl (by decide) (by decide) (by decide) (Or.inr ⟨_, rfl, rfl, rfl, h⟩)
  · replace h := h.2 hc
    refine V_iload_n dX7_cell_12 rfl rfl ?_
    refine V_if_ge 26 dX7_cell_13 rfl (fun hc => ?_) (fun hc => ?_)
    · replace h := h.1 hc
      refine V_aload_n dX7_cell_26 rfl rfl ?_
      refine V_getr dX7_cell_27 fl_RX7_30 (hS.n 0 rfl) (hS.k 0 7 rfl) rfl (hS.r 0 2 23 rfl) ?_
      refine V_iload_n dX7_cell_30 rfl rfl ?_
      refine V_aload_n dX7_cell_31 rfl rfl ?_
      refine V_geti dX7_cell_32 fl_RX7_58 (hS.n 0 rfl) (hS.k 0 7 rfl) rfl ?_
      refine V_callVi (st := []) [.int a1, .int (I 0 6)] dX7_cell_35 ok_mX0_isPossible rfl ml_RX7_163 in_mX0_isPossible se_mX0_isPossible (hS.n 23 rfl) (hS.k 23 0 rfl) (by decide) rfl (Nat.le_of_ble_eq_true rfl) (by decide) (by decide) (by decide) (s_mX0_isPossible hS h) (fun r3 I2 J9 h => ?_)
      obtain ⟨rfl, h⟩ := h
      refine V_if_ne 51 dX7_cell_38 rfl (fun hc => ?_) (fun hc => ?_)
      · replace h := h.1 hc
        refine V_iload_n dX7_cell_51 rfl rfl ?_
        refine V_aload_n dX7_cell_52 rfl rfl ?_
        refine V_getr dX7_cell_53 fl_RX7_30 (hS.n 0 rfl) (hS.k 0 7 rfl) rfl (hS.r 0 2 23 rfl) ?_
        refine V_iload_n dX7_cell_56 rfl rfl ?_
        refine V_callVi (st := [.int a2]) [.int a1] dX7_cell_57 ok_mX0_countOf rfl ml_RX7_168 in_mX0_countOf se_mX0_countOf (hS.n 23 rfl) (hS.k 23 0 rfl) (by decide) rfl (Nat.le_of_ble_eq_true rfl) (by decide) (by decide) (by decide) (s_mX0_countOf hS h) (fun r4 I9 J9 h => ?_)
        obtain ⟨rfl, rfl, h⟩ := h
        refine V_icmp_lt 73 dX7_cell_60 rfl (fun hc => ?_) (fun hc => ?_)
        · replace h := h.1 hc
          refine V_aload_n dX7_cell_73 rfl rfl ?_
          refine V_getr dX7_cell_74 fl_RX7_30 (hS.n 0 rfl) (hS.k 0 7 rfl) rfl (hS.r 0 2 23 rfl) ?_
          refine V_iload_n dX7_cell_77 rfl rfl ?_
          refine V_iload_n dX7_cell_78 rfl rfl ?_
          refine V_iload_n dX7_cell_79 rfl rfl ?_
          refine V_callVi (st := []) [.int a1, .int a2, .int a3] dX7_cell_80 ok_mX0_valueAt rfl ml_RX7_175 in_mX0_valueAt se_mX0_valueAt (hS.n 23 rfl) (hS.k 23 0 rfl) (by decide) rfl (Nat.le_of_ble_eq_true rfl) (by decide) (by decide) (by decide) (s_mX0_valueAt hS h) (fun r5 I9 J9 h => ?_)
          obtain ⟨rfl, rfl, h⟩ := h
          exact V_iret dX7_cell_83 rfl (by decide) (by decide) (Or.inl ⟨_, rfl, rfl, rfl, h⟩)
        · replace h := h.2 hc
          exact V_throw (text := "no such row") dX7_cell_63 dX7_cell_66 dX7_cell_67 dX7_cell_69 dX7_cell_72 rfl (by decide +kernel) (by decide +kernel) rfl (by decide) (by decide) (by decide) (Or.inr ⟨_, rfl, rfl, rfl, h⟩)
      · replace h := h.2 hc
        exact V_throw (text := "too many rows or steps") dX7_cell_41 dX7_cell_44 dX7_cell_45 dX7_cell_47 dX7_cell_50 rfl (by decide +kernel) (by decide +kernel) rfl (by decide) (by decide) (by decide) (Or.inr ⟨_, rfl, rfl, rfl, h⟩)
    · replace h := h.2 hc
      exact V_throw (text := "no such node, column or row") dX7_cell_16 dX7_cell_19 dX7_cell_20 dX7_cell_22 dX7_cell_25 rfl (by decide +kernel) (by decide +kernel) rfl (by decide) (by decide) (by decide) (Or.inr ⟨_, rfl, rfl, rfl, h⟩)
def wX7_same (a1 : Int32) (a2 : Int32) (I : QI) (post : Int32 → QI → Prop) (px : String → QI → Prop) : Prop := (wX2_has a1 I (fun r1 => ((r1 = 0 → (px "java/lang/IndexOutOfBoundsException" I)) ∧ (¬ r1 = 0 → (wX2_has a2 I (fun r2 => ((¬ r2 = 0 → (wX0_isPossible a1 (I 0 6) I (fun r4 I3 => ((r4 = 0 → (px "java/lang/IllegalStateException" I3)) ∧ (¬ r4 = 0 → (wX0_isPossible a2 (I3 0 6) I3 (fun r6 I5 => ((¬ r6 = 0 → (wX0_haveSameRows a1 a2 I5 (fun r8 I7 => ((r8 = 0 ∨ r8 = 1) ∧ post r8 I7)))) ∧ (r6 = 0 → (px "java/lang/IllegalStateException" I5)))))))))) ∧ (r2 = 0 → (px "java/lang/IndexOutOfBoundsException" I)))))))))
set_option maxRecDepth 100000 in
set_option maxHeartbeats 4000000 in
theorem s_mX7_same {X : QX} {S : QS} {a1 : Int32} {a2 : Int32} {I : QI} {J : QJ} {post : Int32 → QI → Prop} {px : String → QI → Prop} (hS : Sh S) (h : wX7_same a1 a2 I post px) : CX X mX7_same 7 1 6 [.ref 0, .int a1, .int a2] S I J (q_Px S (fun r I2 J2 => J = J2 ∧ post r I2) (fun E I2 J2 => J = J2 ∧ px E I2)) := by
  refine CX.of (lo := [(0, .ref 0), (1, .int a1), (2, .int a2)]) ok_mX7_same rfl (Nat.le_of_ble_eq_true rfl) rfl ?_
  replace h : (wX2_has a1 I (fun r1 => ((r1 = 0 → (px "java/lang/IndexOutOfBoundsException" I)) ∧ (¬ r1 = 0 → (wX2_has a2 I (fun r2 => ((¬ r2 = 0 → (wX0_isPossible a1 (I 0 6) I (fun r4 I3 => ((r4 = 0 → (px "java/lang/IllegalStateException" I3)) ∧ (¬ r4 = 0 → (wX0_isPossible a2 (I3 0 6) I3 (fun r6 I5 => ((¬ r6 = 0 → (wX0_haveSameRows a1 a2 I5 (fun r8 I7 => ((r8 = 0 ∨ r8 = 1) ∧ post r8 I7)))) ∧ (r6 = 0 → (px "java/lang/IllegalStateException" I5)))))))))) ∧ (r2 = 0 → (px "java/lang/IndexOutOfBoundsException" I))))))))) := h
  refine V_aload_n dX7_same_0 rfl rfl ?_
  refine V_getr dX7_same_1 fl_RX7_21 (hS.n 0 rfl) (hS.k 0 7 rfl) rfl (hS.r 0 1 15 rfl) ?_
  refine V_iload_n dX7_same_4 rfl rfl ?_
  refine V_callVi (st := []) [.int a1] dX7_same_5 ok_mX2_has rfl ml_RX7_153 in_mX2_has se_mX2_has (hS.n 15 rfl) (hS.k 15 2 rfl) (by decide) rfl (Nat.le_of_ble_eq_true rfl) (by decide) (by decide) (by decide) (s_mX2_has hS h) (fun r1 I9 J9 h => ?_)
  obtain ⟨rfl, rfl, h⟩ := h
  refine V_if_eq 22 dX7_same_8 rfl (fun hc => ?_) (fun hc => ?_)
  · replace h := h.1 hc
    exact V_throw (text := "no such node") dX7_same_22 dX7_same_25 dX7_same_26 dX7_same_28 dX7_same_31 rfl (by decide +kernel) (by decide +kernel) rfl (by decide) (by decide) (by decide) (Or.inr ⟨_, rfl, rfl, rfl, h⟩)
  · replace h := h.2 hc
    refine V_aload_n dX7_same_11 rfl rfl ?_
    refine V_getr dX7_same_12 fl_RX7_21 (hS.n 0 rfl) (hS.k 0 7 rfl) rfl (hS.r 0 1 15 rfl) ?_
    refine V_iload_n dX7_same_15 rfl rfl ?_
    refine V_callVi (st := []) [.int a2] dX7_same_16 ok_mX2_has rfl ml_RX7_153 in_mX2_has se_mX2_has (hS.n 15 rfl) (hS.k 15 2 rfl) (by decide) rfl (Nat.le_of_ble_eq_true rfl) (by decide) (by decide) (by decide) (s_mX2_has hS h) (fun r2 I9 J9 h => ?_)
    obtain ⟨rfl, rfl, h⟩ := h
    refine V_if_ne 32 dX7_same_19 rfl (fun hc => ?_) (fun hc => ?_)
    · replace h := h.1 hc
      refine V_aload_n dX7_same_32 rfl rfl ?_
      refine V_getr dX7_same_33 fl_RX7_30 (hS.n 0 rfl) (hS.k 0 7 rfl) rfl (hS.r 0 2 23 rfl) ?_
      refine V_iload_n dX7_same_36 rfl rfl ?_
      refine V_aload_n dX7_same_37 rfl rfl ?_
      refine V_geti dX7_same_38 fl_RX7_58 (hS.n 0 rfl) (hS.k 0 7 rfl) rfl ?_
      refine V_callVi (st := []) [.int a1, .int (I 0 6)] dX7_same_41 ok_mX0_isPossible rfl ml_RX7_163 in_mX0_isPossible se_mX0_isPossible (hS.n 23 rfl) (hS.k 23 0 rfl) (by decide) rfl (Nat.le_of_ble_eq_true rfl) (by decide) (by decide) (by decide) (s_mX0_isPossible hS h) (fun r4 I3 J9 h => ?_)
      obtain ⟨rfl, h⟩ := h
      refine V_if_eq 62 dX7_same_44 rfl (fun hc => ?_) (fun hc => ?_)
      · replace h := h.1 hc
        exact V_throw (text := "too many rows or steps") dX7_same_62 dX7_same_65 dX7_same_66 dX7_same_68 dX7_same_71 rfl (by decide +kernel) (by decide +kernel) rfl (by decide) (by decide) (by decide) (Or.inr ⟨_, rfl, rfl, rfl, h⟩)
      · replace h := h.2 hc
        refine V_aload_n dX7_same_47 rfl rfl ?_
        refine V_getr dX7_same_48 fl_RX7_30 (hS.n 0 rfl) (hS.k 0 7 rfl) rfl (hS.r 0 2 23 rfl) ?_
        refine V_iload_n dX7_same_51 rfl rfl ?_
        refine V_aload_n dX7_same_52 rfl rfl ?_
        refine V_geti dX7_same_53 fl_RX7_58 (hS.n 0 rfl) (hS.k 0 7 rfl) rfl ?_
        refine V_callVi (st := []) [.int a2, .int (I3 0 6)] dX7_same_56 ok_mX0_isPossible rfl ml_RX7_163 in_mX0_isPossible se_mX0_isPossible (hS.n 23 rfl) (hS.k 23 0 rfl) (by decide) rfl (Nat.le_of_ble_eq_true rfl) (by decide) (by decide) (by decide) (s_mX0_isPossible hS h) (fun r6 I5 J9 h => ?_)
        obtain ⟨rfl, h⟩ := h
        refine V_if_ne 72 dX7_same_59 rfl (fun hc => ?_) (fun hc => ?_)
        · replace h := h.1 hc
          refine V_aload_n dX7_same_72 rfl rfl ?_
          refine V_getr dX7_same_73 fl_RX7_30 (hS.n 0 rfl) (hS.k 0 7 rfl) rfl (hS.r 0 2 23 rfl) ?_
          refine V_iload_n dX7_same_76 rfl rfl ?_
          refine V_iload_n dX7_same_77 rfl rfl ?_
          refine V_callVi (st := []) [.int a1, .int a2] dX7_same_78 ok_mX0_haveSameRows rfl ml_RX7_179 in_mX0_haveSameRows se_mX0_haveSameRows (hS.n 23 rfl) (hS.k 23 0 rfl) (by decide) rfl (Nat.le_of_ble_eq_true rfl) (by decide) (by decide) (by decide) (s_mX0_haveSameRows hS h) (fun r8 I7 J9 h => ?_)
          obtain ⟨rfl, h⟩ := h
          obtain ⟨hz, h⟩ := h
          exact V_zret dX7_same_81 rfl (q_nz hz) (by decide) (by decide) (Or.inl ⟨_, rfl, rfl, rfl, h⟩)
        · replace h := h.2 hc
          exact V_throw (text := "too many rows or steps") dX7_same_62 dX7_same_65 dX7_same_66 dX7_same_68 dX7_same_71 rfl (by decide +kernel) (by decide +kernel) rfl (by decide) (by decide) (by decide) (Or.inr ⟨_, rfl, rfl, rfl, h⟩)
    · replace h := h.2 hc
      exact V_throw (text := "no such node") dX7_same_22 dX7_same_25 dX7_same_26 dX7_same_28 dX7_same_31 rfl (by decide +kernel) (by decide +kernel) rfl (by decide) (by decide) (by decide) (Or.inr ⟨_, rfl, rfl, rfl, h⟩)
def wX7_steps (a1 : Int32) (I : QI) (post : Int32 → QI → Prop) (px : String → QI → Prop) : Prop := (wX2_has a1 I (fun r1 => ((¬ r1 = 0 → (wX0_isPossible a1 (I 0 6) I (fun r3 I2 => ((¬ r3 = 0 → (wX0_stepsOf a1 I2 (fun r4 => post r4 I2))) ∧ (r3 = 0 → (px "java/lang/IllegalStateException" I2)))))) ∧ (r1 = 0 → (px "java/lang/IndexOutOfBoundsException" I)))))
set_option maxRecDepth 100000 in
set_option maxHeartbeats 4000000 in
theorem s_mX7_steps {X : QX} {S : QS} {a1 : Int32} {I : QI} {J : QJ} {post : Int32 → QI → Prop} {px : String → QI → Prop} (hS : Sh S) (h : wX7_steps a1 I post px) : CX X mX7_steps 7 1 6 [.ref 0, .int a1] S I J (q_Px S (fun r I2 J2 => J = J2 ∧ post r I2) (fun E I2 J2 => J = J2 ∧ px E I2)) := by
  refine CX.of (lo := [(0, .ref 0), (1, .int a1)]) ok_mX7_steps rfl (Nat.le_of_ble_eq_true rfl) rfl ?_
  replace h : (wX2_has a1 I (fun r1 => ((¬ r1 = 0 → (wX0_isPossible a1 (I 0 6) I (fun r3 I2 => ((¬ r3 = 0 → (wX0_stepsOf a1 I2 (fun r4 => post r4 I2))) ∧ (r3 = 0 → (px "java/lang/IllegalStateException" I2)))))) ∧ (r1 = 0 → (px "java/lang/IndexOutOfBoundsException" I))))) := h
  refine V_aload_n dX7_steps_0 rfl rfl ?_
  refine V_getr dX7_steps_1 fl_RX7_21 (hS.n 0 rfl) (hS.k 0 7 rfl) rfl (hS.r 0 1 15 rfl) ?_
  refine V_iload_n dX7_steps_4 rfl rfl ?_
  refine V_callVi (st := []) [.int a1] dX7_steps_5 ok_mX2_has rfl ml_RX7_153 in_mX2_has se_mX2_has (hS.n 15 rfl) (hS.k 15 2 rfl) (by decide) rfl (Nat.le_of_ble_eq_true rfl) (by decide) (by decide) (by decide) (s_mX2_has hS h) (fun r1 I9 J9 h => ?_)
  obtain ⟨rfl, rfl, h⟩ := h
  refine V_if_ne 21 dX7_steps_8 rfl (fun hc => ?_) (fun hc => ?_)
  · replace h := h.1 hc
    refine V_aload_n dX7_steps_21 rfl rfl ?_
    refine V_getr dX7_steps_22 fl_RX7_30 (hS.n 0 rfl) (hS.k 0 7 rfl) rfl (hS.r 0 2 23 rfl) ?_
    refine V_iload_n dX7_steps_25 rfl rfl ?_
    refine V_aload_n dX7_steps_26 rfl rfl ?_
    refine V_geti dX7_steps_27 fl_RX7_58 (hS.n 0 rfl) (hS.k 0 7 rfl) rfl ?_
    refine V_callVi (st := []) [.int a1, .int (I 0 6)] dX7_steps_30 ok_mX0_isPossible rfl ml_RX7_163 in_mX0_isPossible se_mX0_isPossible (hS.n 23 rfl) (hS.k 23 0 rfl) (by decide) rfl (Nat.le_of_ble_eq_true rfl) (by decide) (by decide) (by decide) (s_mX0_isPossible hS h) (fun r3 I2 J9 h => ?_)
    obtain ⟨rfl, h⟩ := h
    refine V_if_ne 46 dX7_steps_33 rfl (fun hc => ?_) (fun hc => ?_)
    · replace h := h.1 hc
      refine V_aload_n dX7_steps_46 rfl rfl ?_
      refine V_getr dX7_steps_47 fl_RX7_30 (hS.n 0 rfl) (hS.k 0 7 rfl) rfl (hS.r 0 2 23 rfl) ?_
      refine V_iload_n dX7_steps_50 rfl rfl ?_
      refine V_callVi (st := []) [.int a1] dX7_steps_51 ok_mX0_stepsOf rfl ml_RX7_182 in_mX0_stepsOf se_mX0_stepsOf (hS.n 23 rfl) (hS.k 23 0 rfl) (by decide) rfl (Nat.le_of_ble_eq_true rfl) (by decide) (by decide) (by decide) (s_mX0_stepsOf hS h) (fun r4 I9 J9 h => ?_)
      obtain ⟨rfl, rfl, h⟩ := h
      exact V_iret dX7_steps_54 rfl (by decide) (by decide) (Or.inl ⟨_, rfl, rfl, rfl, h⟩)
    · replace h := h.2 hc
      exact V_throw (text := "too many rows or steps") dX7_steps_36 dX7_steps_39 dX7_steps_40 dX7_steps_42 dX7_steps_45 rfl (by decide +kernel) (by decide +kernel) rfl (by decide) (by decide) (by decide) (Or.inr ⟨_, rfl, rfl, rfl, h⟩)
  · replace h := h.2 hc
    exact V_throw (text := "no such node") dX7_steps_11 dX7_steps_14 dX7_steps_15 dX7_steps_17 dX7_steps_20 rfl (by decide +kernel) (by decide +kernel) rfl (by decide) (by decide) (by decide) (Or.inr ⟨_, rfl, rfl, rfl, h⟩)
def wX7_budget (a1 : Int32) (I : QI) (post : Int32 → QI → Prop) (px : String → QI → Prop) : Prop := ((a1 < 1 → (px "java/lang/IllegalArgumentException" I)) ∧ (¬ a1 < 1 → ((a1 ≤ 100000 → (∀ v1 : Int32, v1 = (I 0 6) → (∀ I2 : QI, I2 = q_u2 I 0 6 a1 → post v1 I2))) ∧ (¬ a1 ≤ 100000 → (px "java/lang/IllegalArgumentException" I)))))
set_option maxRecDepth 100000 in
set_option maxHeartbeats 4000000 in
theorem s_mX7_budget {X : QX} {S : QS} {a1 : Int32} {I : QI} {J : QJ} {post : Int32 → QI → Prop} {px : String → QI → Prop} (hS : Sh S) (h : wX7_budget a1 I post px) : CX X mX7_budget 0 1 6 [.ref 0, .int a1] S I J (q_Px S (fun r I2 J2 => J = J2 ∧ post r I2) (fun E I2 J2 => J = J2 ∧ px E I2)) := by
  refine CX.of (lo := [(0, .ref 0), (1, .int a1)]) ok_mX7_budget rfl (Nat.le_of_ble_eq_true rfl) rfl ?_
  replace h : ((a1 < 1 → (px "java/lang/IllegalArgumentException" I)) ∧ (¬ a1 < 1 → ((a1 ≤ 100000 → (∀ v1 : Int32, v1 = (I 0 6) → (∀ I2 : QI, I2 = q_u2 I 0 6 a1 → post v1 I2))) ∧ (¬ a1 ≤ 100000 → (px "java/lang/IllegalArgumentException" I))))) := h
  refine V_iload_n dX7_budget_0 rfl rfl ?_
  refine V_iconst (v := 1) dX7_budget_1 (by decide) ?_
  refine V_icmp_lt 11 dX7_budget_2 rfl (fun hc => ?_) (fun hc => ?_)
  · replace h := h.1 hc
    exact V_throw (text := "a budget has 1 to 100000 steps") dX7_budget_11 dX7_budget_14 dX7_budget_15 dX7_budget_17 dX7_budget_20 rfl (by decide +kernel) (by decide +kernel) rfl (by decide) (by decide) (by decide) (Or.inr ⟨_, rfl, rfl, rfl, h⟩)
  · replace h := h.2 hc
    refine V_iload_n dX7_budget_5 rfl rfl ?_
    refine V_ldc dX7_budget_6 co_RX7_57 ?_
    refine V_icmp_le 21 dX7_budget_8 rfl (fun hc => ?_) (fun hc => ?_)
    · replace h := h.1 hc
      refine V_aload_n dX7_budget_21 rfl rfl ?_
      refine V_geti dX7_budget_22 fl_RX7_58 (hS.n 0 rfl) (hS.k 0 7 rfl) rfl ?_
      refine V_topi (fun v1 e_v1 => ?_)
      replace h := h v1 e_v1
      refine V_istore_n (lo2 := [(2, .int v1), (0, .ref 0), (1, .int a1)]) dX7_budget_25 rfl (by decide) rfl ?_
      refine V_aload_n dX7_budget_26 rfl rfl ?_
      refine V_iload_n dX7_budget_27 rfl rfl ?_
      refine V_puti dX7_budget_28 fl_RX7_58 rfl (hS.n 0 rfl) (hS.k 0 7 rfl) rfl rfl rfl ?_
      refine V_memI (fun I2 e_I2 => ?_)
      replace h := h I2 e_I2
      refine V_iload_n dX7_budget_31 rfl rfl ?_
      exact V_iret dX7_budget_32 rfl (by decide) (by decide) (Or.inl ⟨_, rfl, rfl, rfl, h⟩)
    · replace h := h.2 hc
      exact V_throw (text := "a budget has 1 to 100000 steps") dX7_budget_11 dX7_budget_14 dX7_budget_15 dX7_budget_17 dX7_budget_20 rfl (by decide +kernel) (by decide +kernel) rfl (by decide) (by decide) (by decide) (Or.inr ⟨_, rfl, rfl, rfl, h⟩)
def wX7_node (a1 : Int32) (a2 : Int32) (I : QI) (post : Int32 → Prop) (px : String → Prop) : Prop := (wX2_has a1 I (fun r1 => ((¬ r1 = 0 → ((a2 = 0 → (wX2_typeOf a1 I (fun r3 => post r3))) ∧ (a2 = 1 → (wX2_firstOf a1 I (fun r4 => post r4))) ∧ (a2 = 2 → (wX2_secondOf a1 I (fun r5 => post r5))) ∧ (a2 = 3 → (wX2_widthOf a1 I (fun r6 => post r6))) ∧ (¬ a2 = 0 → ¬ a2 = 1 → ¬ a2 = 2 → ¬ a2 = 3 → (px "java/lang/IllegalArgumentException")))) ∧ (r1 = 0 → (px "java/lang/IndexOutOfBoundsException")))))
set_option maxRecDepth 100000 in
set_option maxHeartbeats 4000000 in
theorem s_mX7_node {X : QX} {S : QS} {a1 : Int32} {a2 : Int32} {I : QI} {J : QJ} {post : Int32 → Prop} {px : String → Prop} (hS : Sh S) (h : wX7_node a1 a2 I post px) : CX X mX7_node 1 1 6 [.ref 0, .int a1, .int a2] S I J (q_Px S (fun r I2 J2 => I = I2 ∧ J = J2 ∧ post r) (fun E I2 J2 => I = I2 ∧ J = J2 ∧ px E)) := by
  refine CX.of (lo := [(0, .ref 0), (1, .int a1), (2, .int a2)]) ok_mX7_node rfl (Nat.le_of_ble_eq_true rfl) rfl ?_
  replace h : (wX2_has a1 I (fun r1 => ((¬ r1 = 0 → ((a2 = 0 → (wX2_typeOf a1 I (fun r3 => post r3))) ∧ (a2 = 1 → (wX2_firstOf a1 I (fun r4 => post r4))) ∧ (a2 = 2 → (wX2_secondOf a1 I (fun r5 => post r5))) ∧ (a2 = 3 → (wX2_widthOf a1 I (fun r6 => post r6))) ∧ (¬ a2 = 0 → ¬ a2 = 1 → ¬ a2 = 2 → ¬ a2 = 3 → (px "java/lang/IllegalArgumentException")))) ∧ (r1 = 0 → (px "java/lang/IndexOutOfBoundsException"))))) := h
  refine V_aload_n dX7_node_0 rfl rfl ?_
  refine V_getr dX7_node_1 fl_RX7_21 (hS.n 0 rfl) (hS.k 0 7 rfl) rfl (hS.r 0 1 15 rfl) ?_
  refine V_iload_n dX7_node_4 rfl rfl ?_
  refine V_callVi (st := []) [.int a1] dX7_node_5 ok_mX2_has rfl ml_RX7_153 in_mX2_has se_mX2_has (hS.n 15 rfl) (hS.k 15 2 rfl) (by decide) rfl (Nat.le_of_ble_eq_true rfl) (by decide) (by decide) (by decide) (s_mX2_has hS h) (fun r1 I9 J9 h => ?_)
  obtain ⟨rfl, rfl, h⟩ := h
  refine V_if_ne 21 dX7_node_8 rfl (fun hc => ?_) (fun hc => ?_)
  · replace h := h.1 hc
    refine V_iload_n dX7_node_21 rfl rfl ?_
    by_cases hc0 : a2 = 0
    · replace h := h.1 hc0
      refine V_tableIn 52 dX7_node_22 (by rw [hc0]; decide) (by rw [hc0]; decide) (by rw [hc0]; first | done | rfl) rfl ?_
      refine V_aload_n dX7_node_52 rfl rfl ?_
      refine V_getr dX7_node_53 fl_RX7_21 (hS.n 0 rfl) (hS.k 0 7 rfl) rfl (hS.r 0 1 15 rfl) ?_
      refine V_iload_n dX7_node_56 rfl rfl ?_
      refine V_callVi (st := []) [.int a1] dX7_node_57 ok_mX2_typeOf rfl ml_RX7_192 in_mX2_typeOf se_mX2_typeOf (hS.n 15 rfl) (hS.k 15 2 rfl) (by decide) rfl (Nat.le_of_ble_eq_true rfl) (by decide) (by decide) (by decide) (s_mX2_typeOf hS h) (fun r3 I9 J9 h => ?_)
      obtain ⟨rfl, rfl, h⟩ := h
      exact V_iret dX7_node_60 rfl (by decide) (by decide) (Or.inl ⟨_, rfl, rfl, rfl, rfl, h⟩)
    by_cases hc1 : a2 = 1
    · replace h := h.2.1 hc1
      refine V_tableIn 61 dX7_node_22 (by rw [hc1]; decide) (by rw [hc1]; decide) (by rw [hc1]; first | done | rfl) rfl ?_
      refine V_aload_n dX7_node_61 rfl rfl ?_
      refine V_getr dX7_node_62 fl_RX7_21 (hS.n 0 rfl) (hS.k 0 7 rfl) rfl (hS.r 0 1 15 rfl) ?_
      refine V_iload_n dX7_node_65 rfl rfl ?_
      refine V_callVi (st := []) [.int a1] dX7_node_66 ok_mX2_firstOf rfl ml_RX7_195 in_mX2_firstOf se_mX2_firstOf (hS.n 15 rfl) (hS.k 15 2 rfl) (by decide) rfl (Nat.le_of_ble_eq_true rfl) (by decide) (by decide) (by decide) (s_mX2_firstOf hS h) (fun r4 I9 J9 h => ?_)
      obtain ⟨rfl, rfl, h⟩ := h
      exact V_iret dX7_node_69 rfl (by decide) (by decide) (Or.inl ⟨_, rfl, rfl, rfl, rfl, h⟩)
    by_cases hc2 : a2 = 2
    · replace h := h.2.2.1 hc2
      refine V_tableIn 70 dX7_node_22 (by rw [hc2]; decide) (by rw [hc2]; decide) (by rw [hc2]; first | done | rfl) rfl ?_
      refine V_aload_n dX7_node_70 rfl rfl ?_
      refine V_getr dX7_node_71 fl_RX7_21 (hS.n 0 rfl) (hS.k 0 7 rfl) rfl (hS.r 0 1 15 rfl) ?_
      refine V_iload_n dX7_node_74 rfl rfl ?_
      refine V_callVi (st := []) [.int a1] dX7_node_75 ok_mX2_secondOf rfl ml_RX7_198 in_mX2_secondOf se_mX2_secondOf (hS.n 15 rfl) (hS.k 15 2 rfl) (by decide) rfl (Nat.le_of_ble_eq_true rfl) (by decide) (by decide) (by decide) (s_mX2_secondOf hS h) (fun r5 I9 J9 h => ?_)
      obtain ⟨rfl, rfl, h⟩ := h
      exact V_iret dX7_node_78 rfl (by decide) (by decide) (Or.inl ⟨_, rfl, rfl, rfl, rfl, h⟩)
    by_cases hc3 : a2 = 3
    · replace h := h.2.2.2.1 hc3
      refine V_tableIn 79 dX7_node_22 (by rw [hc3]; decide) (by rw [hc3]; decide) (by rw [hc3]; first | done | rfl) rfl ?_
      refine V_aload_n dX7_node_79 rfl rfl ?_
      refine V_getr dX7_node_80 fl_RX7_21 (hS.n 0 rfl) (hS.k 0 7 rfl) rfl (hS.r 0 1 15 rfl) ?_
      refine V_iload_n dX7_node_83 rfl rfl ?_
      refine V_callVi (st := []) [.int a1] dX7_node_84 ok_mX2_widthOf rfl ml_RX7_158 in_mX2_widthOf se_mX2_widthOf (hS.n 15 rfl) (hS.k 15 2 rfl) (by decide) rfl (Nat.le_of_ble_eq_true rfl) (by decide) (by decide) (by decide) (s_mX2_widthOf hS h) (fun r6 I9 J9 h => ?_)
      obtain ⟨rfl, rfl, h⟩ := h
      exact V_iret dX7_node_87 rfl (by decide) (by decide) (Or.inl ⟨_, rfl, rfl, rfl, rfl, h⟩)
    replace h := h.2.2.2.2 hc0 hc1 hc2 hc3
    have n0 := q_tsw (c := 0) hc0 (by decide) (by decide)
    have n1 := q_tsw (c := 1) hc1 (by decide) (by decide)
    have n2 := q_tsw (c := 2) hc2 (by decide) (by decide)
    have n3 := q_tsw (c := 3) hc3 (by decide) (by decide)
    refine V_tableOut 88 dX7_node_22 (by omega) rfl ?_
    exact V_throw (text := "what is out of range") dX7_node_88 dX7_node_91 dX7_node_92 dX7_node_94 dX7_node_97 rfl (by decide +kernel) (by decide +kernel) rfl (by decide) (by decide) (by decide) (Or.inr ⟨_, rfl, rfl, rfl, rfl, h⟩)
  · replace h := h.2 hc
    exact V_throw (text := "no such node") dX7_node_11 dX7_node_14 dX7_node_15 dX7_node_17 dX7_node_20 rfl (by decide +kernel) (by decide +kernel) rfl (by decide) (by decide) (by decide) (Or.inr ⟨_, rfl, rfl, rfl, rfl, h⟩)
def wX7_link (a1 : Int32) (a2 : Int32) (a3 : Int32) (a4 : Int32) (I : QI) (post : Int32 → QI → Prop) (px : String → QI → Prop) : Prop := (wX4_hasColumn a1 a2 I (fun r1 => ((r1 = 0 → (px "java/lang/IndexOutOfBoundsException" I)) ∧ (¬ r1 = 0 → (wX4_hasColumn a3 a4 I (fun r2 => ((¬ r2 = 0 → ((¬ a1 = a3 → (wX1_isFull I (fun r3 => ((r3 = 0 → (wX1_append a1 a2 a3 a4 I (fun r5 I4 => post r5 I4))) ∧ (¬ r3 = 0 → (px "java/lang/IllegalStateException" I)))))) ∧ (a1 = a3 → (px "java/lang/IllegalArgumentException" I)))) ∧ (r2 = 0 → (px "java/lang/IndexOutOfBoundsException" I)))))))))
set_option maxRecDepth 100000 in
set_option maxHeartbeats 4000000 in
theorem s_mX7_link {X : QX} {S : QS} {a1 : Int32} {a2 : Int32} {a3 : Int32} {a4 : Int32} {I : QI} {J : QJ} {post : Int32 → QI → Prop} {px : String → QI → Prop} (hS : Sh S) (h : wX7_link a1 a2 a3 a4 I post px) : CX X mX7_link 2 1 6 [.ref 0, .int a1, .int a2, .int a3, .int a4] S I J (q_Px S (fun r I2 J2 => J = J2 ∧ post r I2) (fun E I2 J2 => J = J2 ∧ px E I2)) := by
  refine CX.of (lo := [(0, .ref 0), (1, .int a1), (2, .int a2), (3, .int a3), (4, .int a4)]) ok_mX7_link rfl (Nat.le_of_ble_eq_true rfl) rfl ?_
  replace h : (wX4_hasColumn a1 a2 I (fun r1 => ((r1 = 0 → (px "java/lang/IndexOutOfBoundsException" I)) ∧ (¬ r1 = 0 → (wX4_hasColumn a3 a4 I (fun r2 => ((¬ r2 = 0 → ((¬ a1 = a3 → (wX1_isFull I (fun r3 => ((r3 = 0 → (wX1_append a1 a2 a3 a4 I (fun r5 I4 => post r5 I4))) ∧ (¬ r3 = 0 → (px "java/lang/IllegalStateException" I)))))) ∧ (a1 = a3 → (px "java/lang/IllegalArgumentException" I)))) ∧ (r2 = 0 → (px "java/lang/IndexOutOfBoundsException" I))))))))) := h
  refine V_aload_n dX7_link_0 rfl rfl ?_
  refine V_getr dX7_link_1 fl_RX7_10 (hS.n 0 rfl) (hS.k 0 7 rfl) rfl (hS.r 0 0 1 rfl) ?_
  refine V_iload_n dX7_link_4 rfl rfl ?_
  refine V_iload_n dX7_link_5 rfl rfl ?_
  refine V_callVi (st := []) [.int a1, .int a2] dX7_link_6 ok_mX4_hasColumn rfl ml_RX7_203 in_mX4_hasColumn se_mX4_hasColumn (hS.n 1 rfl) (hS.k 1 4 rfl) (by decide) rfl (Nat.le_of_ble_eq_true rfl) (by decide) (by decide) (by decide) (s_mX4_hasColumn hS h) (fun r1 I9 J9 h => ?_)
  obtain ⟨rfl, rfl, h⟩ := h
  refine V_if_eq 25 dX7_link_9 rfl (fun hc => ?_) (fun hc => ?_)
  · replace h := h.1 hc
    exact V_throw (text := "no such table or column") dX7_link_25 dX7_link_28 dX7_link_29 dX7_link_31 dX7_link_34 rfl (by decide +kernel) (by decide +kernel) rfl (by decide) (by decide) (by decide) (Or.inr ⟨_, rfl, rfl, rfl, h⟩)
  · replace h := h.2 hc
    refine V_aload_n dX7_link_12 rfl rfl ?_
    refine V_getr dX7_link_13 fl_RX7_10 (hS.n 0 rfl) (hS.k 0 7 rfl) rfl (hS.r 0 0 1 rfl) ?_
    refine V_iload_n dX7_link_16 rfl rfl ?_
    refine V_iload dX7_link_17 rfl ?_
    refine V_callVi (st := []) [.int a3, .int a4] dX7_link_19 ok_mX4_hasColumn rfl ml_RX7_203 in_mX4_hasColumn se_mX4_hasColumn (hS.n 1 rfl) (hS.k 1 4 rfl) (by decide) rfl (Nat.le_of_ble_eq_true rfl) (by decide) (by decide) (by decide) (s_mX4_hasColumn hS h) (fun r2 I9 J9 h => ?_)
    obtain ⟨rfl, rfl, h⟩ := h
    refine V_if_ne 35 dX7_link_22 rfl (fun hc => ?_) (fun hc => ?_)
    · replace h := h.1 hc
      refine V_iload_n dX7_link_35 rfl rfl ?_
      refine V_iload_n dX7_link_36 rfl rfl ?_
      refine V_icmp_ne 50 dX7_link_37 rfl (fun hc => ?_) (fun hc => ?_)
      · replace h := h.1 hc
        refine V_aload_n dX7_link_50 rfl rfl ?_
        refine V_getr dX7_link_51 fl_RX7_46 (hS.n 0 rfl) (hS.k 0 7 rfl) rfl (hS.r 0 4 37 rfl) ?_
        refine V_callVi (st := []) [] dX7_link_54 ok_mX1_isFull rfl ml_RX7_208 in_mX1_isFull se_mX1_isFull (hS.n 37 rfl) (hS.k 37 1 rfl) (by decide) rfl (Nat.le_of_ble_eq_true rfl) (by decide) (by decide) (by decide) (s_mX1_isFull hS h) (fun r3 I9 J9 h => ?_)
        obtain ⟨rfl, rfl, h⟩ := h
        refine V_if_eq 70 dX7_link_57 rfl (fun hc => ?_) (fun hc => ?_)
        · replace h := h.1 hc
          refine V_aload_n dX7_link_70 rfl rfl ?_
          refine V_getr dX7_link_71 fl_RX7_46 (hS.n 0 rfl) (hS.k 0 7 rfl) rfl (hS.r 0 4 37 rfl) ?_
          refine V_iload_n dX7_link_74 rfl rfl ?_
          refine V_iload_n dX7_link_75 rfl rfl ?_
          refine V_iload_n dX7_link_76 rfl rfl ?_
          refine V_iload dX7_link_77 rfl ?_
          refine V_callVi (st := []) [.int a1, .int a2, .int a3, .int a4] dX7_link_79 ok_mX1_append rfl ml_RX7_211 in_mX1_append se_mX1_append (hS.n 37 rfl) (hS.k 37 1 rfl) (by decide) rfl (Nat.le_of_ble_eq_true rfl) (by decide) (by decide) (by decide) (s_mX1_append hS h) (fun r5 I4 J9 h => ?_)
          obtain ⟨rfl, h⟩ := h
          exact V_iret dX7_link_82 rfl (by decide) (by decide) (Or.inl ⟨_, rfl, rfl, rfl, h⟩)
        · replace h := h.2 hc
          exact V_throw (text := "there are 6 links") dX7_link_60 dX7_link_63 dX7_link_64 dX7_link_66 dX7_link_69 rfl (by decide +kernel) (by decide +kernel) rfl (by decide) (by decide) (by decide) (Or.inr ⟨_, rfl, rfl, rfl, h⟩)
      · replace h := h.2 hc
        exact V_throw (text := "both tables are the same") dX7_link_40 dX7_link_43 dX7_link_44 dX7_link_46 dX7_link_49 rfl (by decide +kernel) (by decide +kernel) rfl (by decide) (by decide) (by decide) (Or.inr ⟨_, rfl, rfl, rfl, h⟩)
    · replace h := h.2 hc
      exact V_throw (text := "no such table or column") dX7_link_25 dX7_link_28 dX7_link_29 dX7_link_31 dX7_link_34 rfl (by decide +kernel) (by decide +kernel) rfl (by decide) (by decide) (by decide) (Or.inr ⟨_, rfl, rfl, rfl, h⟩)
def wX7_estimate (a1 : Int32) (I : QI) (post : Int32 → QI → Prop) (px : String → QI → Prop) : Prop := (wX4_hasSet a1 I (fun r1 => ((¬ r1 = 0 → (wX1_estimateOf a1 I (fun r3 I2 => post r3 I2))) ∧ (r1 = 0 → (px "java/lang/IllegalArgumentException" I)))))
set_option maxRecDepth 100000 in
set_option maxHeartbeats 4000000 in
theorem s_mX7_estimate {X : QX} {S : QS} {a1 : Int32} {I : QI} {J : QJ} {post : Int32 → QI → Prop} {px : String → QI → Prop} (hS : Sh S) (h : wX7_estimate a1 I post px) : CX X mX7_estimate 6 1 6 [.ref 0, .int a1] S I J (q_Px S (fun r I2 J2 => J = J2 ∧ post r I2) (fun E I2 J2 => J = J2 ∧ px E I2)) := by
  refine CX.of (lo := [(0, .ref 0), (1, .int a1)]) ok_mX7_estimate rfl (Nat.le_of_ble_eq_true rfl) rfl ?_
  replace h : (wX4_hasSet a1 I (fun r1 => ((¬ r1 = 0 → (wX1_estimateOf a1 I (fun r3 I2 => post r3 I2))) ∧ (r1 = 0 → (px "java/lang/IllegalArgumentException" I))))) := h
  refine V_aload_n dX7_estimate_0 rfl rfl ?_
  refine V_getr dX7_estimate_1 fl_RX7_10 (hS.n 0 rfl) (hS.k 0 7 rfl) rfl (hS.r 0 0 1 rfl) ?_
  refine V_iload_n dX7_estimate_4 rfl rfl ?_
  refine V_callVi (st := []) [.int a1] dX7_estimate_5 ok_mX4_hasSet rfl ml_RX7_213 in_mX4_hasSet se_mX4_hasSet (hS.n 1 rfl) (hS.k 1 4 rfl) (by decide) rfl (Nat.le_of_ble_eq_true rfl) (by decide) (by decide) (by decide) (s_mX4_hasSet hS h) (fun r1 I9 J9 h => ?_)
  obtain ⟨rfl, rfl, h⟩ := h
  refine V_if_ne 21 dX7_estimate_8 rfl (fun hc => ?_) (fun hc => ?_)
  · replace h := h.1 hc
    refine V_aload_n dX7_estimate_21 rfl rfl ?_
    refine V_getr dX7_estimate_22 fl_RX7_46 (hS.n 0 rfl) (hS.k 0 7 rfl) rfl (hS.r 0 4 37 rfl) ?_
    refine V_iload_n dX7_estimate_25 rfl rfl ?_
    refine V_callVi (st := []) [.int a1] dX7_estimate_26 ok_mX1_estimateOf rfl ml_RX7_218 in_mX1_estimateOf se_mX1_estimateOf (hS.n 37 rfl) (hS.k 37 1 rfl) (by decide) rfl (Nat.le_of_ble_eq_true rfl) (by decide) (by decide) (by decide) (s_mX1_estimateOf hS h) (fun r3 I2 J9 h => ?_)
    obtain ⟨rfl, h⟩ := h
    exact V_iret dX7_estimate_29 rfl (by decide) (by decide) (Or.inl ⟨_, rfl, rfl, rfl, h⟩)
  · replace h := h.2 hc
    exact V_throw (text := "no such set of tables") dX7_estimate_11 dX7_estimate_14 dX7_estimate_15 dX7_estimate_17 dX7_estimate_20 rfl (by decide +kernel) (by decide +kernel) rfl (by decide) (by decide) (by decide) (Or.inr ⟨_, rfl, rfl, rfl, h⟩)
def wX7_cost (a1 : Int32) (I : QI) (post : Int32 → QI → Prop) (px : String → QI → Prop) : Prop := (wX4_hasSet a1 I (fun r1 => ((¬ r1 = 0 → (wX1_bestCost a1 I (fun r3 I2 => post r3 I2))) ∧ (r1 = 0 → (px "java/lang/IllegalArgumentException" I)))))
set_option maxRecDepth 100000 in
set_option maxHeartbeats 4000000 in
theorem s_mX7_cost {X : QX} {S : QS} {a1 : Int32} {I : QI} {J : QJ} {post : Int32 → QI → Prop} {px : String → QI → Prop} (hS : Sh S) (h : wX7_cost a1 I post px) : CX X mX7_cost 7 1 6 [.ref 0, .int a1] S I J (q_Px S (fun r I2 J2 => J = J2 ∧ post r I2) (fun E I2 J2 => J = J2 ∧ px E I2)) := by
  refine CX.of (lo := [(0, .ref 0), (1, .int a1)]) ok_mX7_cost rfl (Nat.le_of_ble_eq_true rfl) rfl ?_
  replace h : (wX4_hasSet a1 I (fun r1 => ((¬ r1 = 0 → (wX1_bestCost a1 I (fun r3 I2 => post r3 I2))) ∧ (r1 = 0 → (px "java/lang/IllegalArgumentException" I))))) := h
  refine V_aload_n dX7_cost_0 rfl rfl ?_
  refine V_getr dX7_cost_1 fl_RX7_10 (hS.n 0 rfl) (hS.k 0 7 rfl) rfl (hS.r 0 0 1 rfl) ?_
  refine V_iload_n dX7_cost_4 rfl rfl ?_
  refine V_callVi (st := []) [.int a1] dX7_cost_5 ok_mX4_hasSet rfl ml_RX7_213 in_mX4_hasSet se_mX4_hasSet (hS.n 1 rfl) (hS.k 1 4 rfl) (by decide) rfl (Nat.le_of_ble_eq_true rfl) (by decide) (by decide) (by decide) (s_mX4_hasSet hS h) (fun r1 I9 J9 h => ?_)
  obtain ⟨rfl, rfl, h⟩ := h
  refine V_if_ne 21 dX7_cost_8 rfl (fun hc => ?_) (fun hc => ?_)
  · replace h := h.1 hc
    refine V_aload_n dX7_cost_21 rfl rfl ?_
    refine V_getr dX7_cost_22 fl_RX7_46 (hS.n 0 rfl) (hS.k 0 7 rfl) rfl (hS.r 0 4 37 rfl) ?_
    refine V_iload_n dX7_cost_25 rfl rfl ?_
    refine V_callVi (st := []) [.int a1] dX7_cost_26 ok_mX1_bestCost rfl ml_RX7_221 in_mX1_bestCost se_mX1_bestCost (hS.n 37 rfl) (hS.k 37 1 rfl) (by decide) rfl (Nat.le_of_ble_eq_true rfl) (by decide) (by decide) (by decide) (s_mX1_bestCost hS h) (fun r3 I2 J9 h => ?_)
    obtain ⟨rfl, h⟩ := h
    exact V_iret dX7_cost_29 rfl (by decide) (by decide) (Or.inl ⟨_, rfl, rfl, rfl, h⟩)
  · replace h := h.2 hc
    exact V_throw (text := "no such set of tables") dX7_cost_11 dX7_cost_14 dX7_cost_15 dX7_cost_17 dX7_cost_20 rfl (by decide +kernel) (by decide +kernel) rfl (by decide) (by decide) (by decide) (Or.inr ⟨_, rfl, rfl, rfl, h⟩)
def wX7_split (a1 : Int32) (I : QI) (post : Int32 → QI → Prop) (px : String → QI → Prop) : Prop := (wX4_hasSet a1 I (fun r1 => ((¬ r1 = 0 → (wX1_bestPart a1 I (fun r3 I2 => post r3 I2))) ∧ (r1 = 0 → (px "java/lang/IllegalArgumentException" I)))))
set_option maxRecDepth 100000 in
set_option maxHeartbeats 4000000 in
theorem s_mX7_split {X : QX} {S : QS} {a1 : Int32} {I : QI} {J : QJ} {post : Int32 → QI → Prop} {px : String → QI → Prop} (hS : Sh S) (h : wX7_split a1 I post px) : CX X mX7_split 7 1 6 [.ref 0, .int a1] S I J (q_Px S (fun r I2 J2 => J = J2 ∧ post r I2) (fun E I2 J2 => J = J2 ∧ px E I2)) := by
  refine CX.of (lo := [(0, .ref 0), (1, .int a1)]) ok_mX7_split rfl (Nat.le_of_ble_eq_true rfl) rfl ?_
  replace h : (wX4_hasSet a1 I (fun r1 => ((¬ r1 = 0 → (wX1_bestPart a1 I (fun r3 I2 => post r3 I2))) ∧ (r1 = 0 → (px "java/lang/IllegalArgumentException" I))))) := h
  refine V_aload_n dX7_split_0 rfl rfl ?_
  refine V_getr dX7_split_1 fl_RX7_10 (hS.n 0 rfl) (hS.k 0 7 rfl) rfl (hS.r 0 0 1 rfl) ?_
  refine V_iload_n dX7_split_4 rfl rfl ?_
  refine V_callVi (st := []) [.int a1] dX7_split_5 ok_mX4_hasSet rfl ml_RX7_213 in_mX4_hasSet se_mX4_hasSet (hS.n 1 rfl) (hS.k 1 4 rfl) (by decide) rfl (Nat.le_of_ble_eq_true rfl) (by decide) (by decide) (by decide) (s_mX4_hasSet hS h) (fun r1 I9 J9 h => ?_)
  obtain ⟨rfl, rfl, h⟩ := h
  refine V_if_ne 21 dX7_split_8 rfl (fun hc => ?_) (fun hc => ?_)
  · replace h := h.1 hc
    refine V_aload_n dX7_split_21 rfl rfl ?_
    refine V_getr dX7_split_22 fl_RX7_46 (hS.n 0 rfl) (hS.k 0 7 rfl) rfl (hS.r 0 4 37 rfl) ?_
    refine V_iload_n dX7_split_25 rfl rfl ?_
    refine V_callVi (st := []) [.int a1] dX7_split_26 ok_mX1_bestPart rfl ml_RX7_224 in_mX1_bestPart se_mX1_bestPart (hS.n 37 rfl) (hS.k 37 1 rfl) (by decide) rfl (Nat.le_of_ble_eq_true rfl) (by decide) (by decide) (by decide) (s_mX1_bestPart hS h) (fun r3 I2 J9 h => ?_)
    obtain ⟨rfl, h⟩ := h
    exact V_iret dX7_split_29 rfl (by decide) (by decide) (Or.inl ⟨_, rfl, rfl, rfl, h⟩)
  · replace h := h.2 hc
    exact V_throw (text := "no such set of tables") dX7_split_11 dX7_split_14 dX7_split_15 dX7_split_17 dX7_split_20 rfl (by decide +kernel) (by decide +kernel) rfl (by decide) (by decide) (by decide) (Or.inr ⟨_, rfl, rfl, rfl, h⟩)
def wX7_view (a1 : Int32) (a2 : Int32) (a3 : Int32) (a4 : Int32) (I : QI) (post : Int32 → QI → Prop) (px : String → QI → Prop) : Prop := (wX4_hasColumn a1 a3 I (fun r1 => ((r1 = 0 → (px "java/lang/IndexOutOfBoundsException" I)) ∧ (¬ r1 = 0 → (wX4_hasColumn a2 a4 I (fun r2 => ((¬ r2 = 0 → ((¬ a1 = a2 → (wX6_append a1 a2 a3 a4 I (fun r4 I3 => ((¬ r4 = (-1) → post r4 I3) ∧ (r4 = (-1) → (px "java/lang/IllegalStateException" I3)))))) ∧ (a1 = a2 → (px "java/lang/IllegalArgumentException" I)))) ∧ (r2 = 0 → (px "java/lang/IndexOutOfBoundsException" I)))))))))
set_option maxRecDepth 100000 in
set_option maxHeartbeats 4000000 in
theorem s_mX7_view {X : QX} {S : QS} {a1 : Int32} {a2 : Int32} {a3 : Int32} {a4 : Int32} {I : QI} {J : QJ} {post : Int32 → QI → Prop} {px : String → QI → Prop} (hS : Sh S) (h : wX7_view a1 a2 a3 a4 I post px) : CX X mX7_view 2 1 6 [.ref 0, .int a1, .int a2, .int a3, .int a4] S I J (q_Px S (fun r I2 J2 => J = J2 ∧ post r I2) (fun E I2 J2 => J = J2 ∧ px E I2)) := by
  refine CX.of (lo := [(0, .ref 0), (1, .int a1), (2, .int a2), (3, .int a3), (4, .int a4)]) ok_mX7_view rfl (Nat.le_of_ble_eq_true rfl) rfl ?_
  replace h : (wX4_hasColumn a1 a3 I (fun r1 => ((r1 = 0 → (px "java/lang/IndexOutOfBoundsException" I)) ∧ (¬ r1 = 0 → (wX4_hasColumn a2 a4 I (fun r2 => ((¬ r2 = 0 → ((¬ a1 = a2 → (wX6_append a1 a2 a3 a4 I (fun r4 I3 => ((¬ r4 = (-1) → post r4 I3) ∧ (r4 = (-1) → (px "java/lang/IllegalStateException" I3)))))) ∧ (a1 = a2 → (px "java/lang/IllegalArgumentException" I)))) ∧ (r2 = 0 → (px "java/lang/IndexOutOfBoundsException" I))))))))) := h
  refine V_aload_n dX7_view_0 rfl rfl ?_
  refine V_getr dX7_view_1 fl_RX7_10 (hS.n 0 rfl) (hS.k 0 7 rfl) rfl (hS.r 0 0 1 rfl) ?_
  refine V_iload_n dX7_view_4 rfl rfl ?_
  refine V_iload_n dX7_view_5 rfl rfl ?_
  refine V_callVi (st := []) [.int a1, .int a3] dX7_view_6 ok_mX4_hasColumn rfl ml_RX7_203 in_mX4_hasColumn se_mX4_hasColumn (hS.n 1 rfl) (hS.k 1 4 rfl) (by decide) rfl (Nat.le_of_ble_eq_true rfl) (by decide) (by decide) (by decide) (s_mX4_hasColumn hS h) (fun r1 I9 J9 h => ?_)
  obtain ⟨rfl, rfl, h⟩ := h
  refine V_if_eq 25 dX7_view_9 rfl (fun hc => ?_) (fun hc => ?_)
  · replace h := h.1 hc
    exact V_throw (text := "no such table or column") dX7_view_25 dX7_view_28 dX7_view_29 dX7_view_31 dX7_view_34 rfl (by decide +kernel) (by decide +kernel) rfl (by decide) (by decide) (by decide) (Or.inr ⟨_, rfl, rfl, rfl, h⟩)
  · replace h := h.2 hc
    refine V_aload_n dX7_view_12 rfl rfl ?_
    refine V_getr dX7_view_13 fl_RX7_10 (hS.n 0 rfl) (hS.k 0 7 rfl) rfl (hS.r 0 0 1 rfl) ?_
    refine V_iload_n dX7_view_16 rfl rfl ?_
    refine V_iload dX7_view_17 rfl ?_
    refine V_callVi (st := []) [.int a2, .int a4] dX7_view_19 ok_mX4_hasColumn rfl ml_RX7_203 in_mX4_hasColumn se_mX4_hasColumn (hS.n 1 rfl) (hS.k 1 4 rfl) (by decide) rfl (Nat.le_of_ble_eq_true rfl) (by decide) (by decide) (by decide) (s_mX4_hasColumn hS h) (fun r2 I9 J9 h => ?_)
    obtain ⟨rfl, rfl, h⟩ := h
    refine V_if_ne 35 dX7_view_22 rfl (fun hc => ?_) (fun hc => ?_)
    · replace h := h.1 hc
      refine V_iload_n dX7_view_35 rfl rfl ?_
      refine V_iload_n dX7_view_36 rfl rfl ?_
      refine V_icmp_ne 50 dX7_view_37 rfl (fun hc => ?_) (fun hc => ?_)
      · replace h := h.1 hc
        refine V_aload_n dX7_view_50 rfl rfl ?_
        refine V_getr dX7_view_51 fl_RX7_53 (hS.n 0 rfl) (hS.k 0 7 rfl) rfl (hS.r 0 5 46 rfl) ?_
        refine V_iload_n dX7_view_54 rfl rfl ?_
        refine V_iload_n dX7_view_55 rfl rfl ?_
        refine V_iload_n dX7_view_56 rfl rfl ?_
        refine V_iload dX7_view_57 rfl ?_
        refine V_callVi (st := []) [.int a1, .int a2, .int a3, .int a4] dX7_view_59 ok_mX6_append rfl ml_RX7_227 in_mX6_append se_mX6_append (hS.n 46 rfl) (hS.k 46 6 rfl) (by decide) rfl (Nat.le_of_ble_eq_true rfl) (by decide) (by decide) (by decide) (s_mX6_append hS h) (fun r4 I3 J9 h => ?_)
        obtain ⟨rfl, h⟩ := h
        refine V_istore (lo2 := [(5, .int r4), (0, .ref 0), (1, .int a1), (2, .int a2), (3, .int a3), (4, .int a4)]) dX7_view_62 (by decide) rfl ?_
        refine V_iload dX7_view_64 rfl ?_
        refine V_iconst (v := (-1)) dX7_view_66 (by decide) ?_
        refine V_icmp_ne 80 dX7_view_67 rfl (fun hc => ?_) (fun hc => ?_)
        · replace h := h.1 hc
          refine V_iload dX7_view_80 rfl ?_
          exact V_iret dX7_view_82 rfl (by decide) (by decide) (Or.inl ⟨_, rfl, rfl, rfl, h⟩)
        · replace h := h.2 hc
          exact V_throw (text := "there are 4 views") dX7_view_70 dX7_view_73 dX7_view_74 dX7_view_76 dX7_view_79 rfl (by decide +kernel) (by decide +kernel) rfl (by decide) (by decide) (by decide) (Or.inr ⟨_, rfl, rfl, rfl, h⟩)
      · replace h := h.2 hc
        exact V_throw (text := "both tables are the same") dX7_view_40 dX7_view_43 dX7_view_44 dX7_view_46 dX7_view_49 rfl (by decide +kernel) (by decide +kernel) rfl (by decide) (by decide) (by decide) (Or.inr ⟨_, rfl, rfl, rfl, h⟩)
    · replace h := h.2 hc
      exact V_throw (text := "no such table or column") dX7_view_25 dX7_view_28 dX7_view_29 dX7_view_31 dX7_view_34 rfl (by decide +kernel) (by decide +kernel) rfl (by decide) (by decide) (by decide) (Or.inr ⟨_, rfl, rfl, rfl, h⟩)
def wX7_different (a1 : Int32) (I : QI) (post : Int32 → Prop) (px : String → Prop) : Prop := (wX6_has a1 I (fun r1 => ((¬ r1 = 0 → (wX6_differentRows a1 I (fun r2 => post r2))) ∧ (r1 = 0 → (px "java/lang/IndexOutOfBoundsException")))))
set_option maxRecDepth 100000 in
set_option maxHeartbeats 4000000 in
theorem s_mX7_different {X : QX} {S : QS} {a1 : Int32} {I : QI} {J : QJ} {post : Int32 → Prop} {px : String → Prop} (hS : Sh S) (h : wX7_different a1 I post px) : CX X mX7_different 5 1 6 [.ref 0, .int a1] S I J (q_Px S (fun r I2 J2 => I = I2 ∧ J = J2 ∧ post r) (fun E I2 J2 => I = I2 ∧ J = J2 ∧ px E)) := by
  refine CX.of (lo := [(0, .ref 0), (1, .int a1)]) ok_mX7_different rfl (Nat.le_of_ble_eq_true rfl) rfl ?_
  replace h : (wX6_has a1 I (fun r1 => ((¬ r1 = 0 → (wX6_differentRows a1 I (fun r2 => post r2))) ∧ (r1 = 0 → (px "java/lang/IndexOutOfBoundsException"))))) := h
  refine V_aload_n dX7_different_0 rfl rfl ?_
  refine V_getr dX7_different_1 fl_RX7_53 (hS.n 0 rfl) (hS.k 0 7 rfl) rfl (hS.r 0 5 46 rfl) ?_
  refine V_iload_n dX7_different_4 rfl rfl ?_
  refine V_callVi (st := []) [.int a1] dX7_different_5 ok_mX6_has rfl ml_RX7_230 in_mX6_has se_mX6_has (hS.n 46 rfl) (hS.k 46 6 rfl) (by decide) rfl (Nat.le_of_ble_eq_true rfl) (by decide) (by decide) (by decide) (s_mX6_has hS h) (fun r1 I9 J9 h => ?_)
  obtain ⟨rfl, rfl, h⟩ := h
  refine V_if_ne 21 dX7_different_8 rfl (fun hc => ?_) (fun hc => ?_)
  · replace h := h.1 hc
    refine V_aload_n dX7_different_21 rfl rfl ?_
    refine V_getr dX7_different_22 fl_RX7_53 (hS.n 0 rfl) (hS.k 0 7 rfl) rfl (hS.r 0 5 46 rfl) ?_
    refine V_iload_n dX7_different_25 rfl rfl ?_
    refine V_callVi (st := []) [.int a1] dX7_different_26 ok_mX6_differentRows rfl ml_RX7_233 in_mX6_differentRows se_mX6_differentRows (hS.n 46 rfl) (hS.k 46 6 rfl) (by decide) rfl (Nat.le_of_ble_eq_true rfl) (by decide) (by decide) (by decide) (s_mX6_differentRows hS h) (fun r2 I9 J9 h => ?_)
    obtain ⟨rfl, rfl, h⟩ := h
    exact V_iret dX7_different_29 rfl (by decide) (by decide) (Or.inl ⟨_, rfl, rfl, rfl, rfl, h⟩)
  · replace h := h.2 hc
    exact V_throw (text := "no such view") dX7_different_11 dX7_different_14 dX7_different_15 dX7_different_17 dX7_different_20 rfl (by decide +kernel) (by decide +kernel) rfl (by decide) (by decide) (by decide) (Or.inr ⟨_, rfl, rfl, rfl, rfl, h⟩)
def wX7_often (a1 : Int32) (a2 : Int32) (a3 : Int32) (I : QI) (post : Int32 → Prop) (px : String → Prop) : Prop := (wX6_hasRows a1 a2 a3 I (fun r1 => ((¬ r1 = 0 → (wX6_timesOf a1 a2 a3 I (fun r2 => post r2))) ∧ (r1 = 0 → (px "java/lang/IndexOutOfBoundsException")))))
set_option maxRecDepth 100000 in
set_option maxHeartbeats 4000000 in
theorem s_mX7_often {X : QX} {S : QS} {a1 : Int32} {a2 : Int32} {a3 : Int32} {I : QI} {J : QJ} {post : Int32 → Prop} {px : String → Prop} (hS : Sh S) (h : wX7_often a1 a2 a3 I post px) : CX X mX7_often 4 1 6 [.ref 0, .int a1, .int a2, .int a3] S I J (q_Px S (fun r I2 J2 => I = I2 ∧ J = J2 ∧ post r) (fun E I2 J2 => I = I2 ∧ J = J2 ∧ px E)) := by
  refine CX.of (lo := [(0, .ref 0), (1, .int a1), (2, .int a2), (3, .int a3)]) ok_mX7_often rfl (Nat.le_of_ble_eq_true rfl) rfl ?_
  replace h : (wX6_hasRows a1 a2 a3 I (fun r1 => ((¬ r1 = 0 → (wX6_timesOf a1 a2 a3 I (fun r2 => post r2))) ∧ (r1 = 0 → (px "java/lang/IndexOutOfBoundsException"))))) := h
  refine V_aload_n dX7_often_0 rfl rfl ?_
  refine V_getr dX7_often_1 fl_RX7_53 (hS.n 0 rfl) (hS.k 0 7 rfl) rfl (hS.r 0 5 46 rfl) ?_
  refine V_iload_n dX7_often_4 rfl rfl ?_
  refine V_iload_n dX7_often_5 rfl rfl ?_
  refine V_iload_n dX7_often_6 rfl rfl ?_
  refine V_callVi (st := []) [.int a1, .int a2, .int a3] dX7_often_7 ok_mX6_hasRows rfl ml_RX7_236 in_mX6_hasRows se_mX6_hasRows (hS.n 46 rfl) (hS.k 46 6 rfl) (by decide) rfl (Nat.le_of_ble_eq_true rfl) (by decide) (by decide) (by decide) (s_mX6_hasRows hS h) (fun r1 I9 J9 h => ?_)
  obtain ⟨rfl, rfl, h⟩ := h
  refine V_if_ne 23 dX7_often_10 rfl (fun hc => ?_) (fun hc => ?_)
  · replace h := h.1 hc
    refine V_aload_n dX7_often_23 rfl rfl ?_
    refine V_getr dX7_often_24 fl_RX7_53 (hS.n 0 rfl) (hS.k 0 7 rfl) rfl (hS.r 0 5 46 rfl) ?_
    refine V_iload_n dX7_often_27 rfl rfl ?_
    refine V_iload_n dX7_often_28 rfl rfl ?_
    refine V_iload_n dX7_often_29 rfl rfl ?_
    refine V_callVi (st := []) [.int a1, .int a2, .int a3] dX7_often_30 ok_mX6_timesOf rfl ml_RX7_241 in_mX6_timesOf se_mX6_timesOf (hS.n 46 rfl) (hS.k 46 6 rfl) (by decide) rfl (Nat.le_of_ble_eq_true rfl) (by decide) (by decide) (by decide) (s_mX6_timesOf hS h) (fun r2 I9 J9 h => ?_)
    obtain ⟨rfl, rfl, h⟩ := h
    exact V_iret dX7_often_33 rfl (by decide) (by decide) (Or.inl ⟨_, rfl, rfl, rfl, rfl, h⟩)
  · replace h := h.2 hc
    exact V_throw (text := "no such view or row") dX7_often_13 dX7_often_16 dX7_often_17 dX7_often_19 dX7_often_22 rfl (by decide +kernel) (by decide +kernel) rfl (by decide) (by decide) (by decide) (Or.inr ⟨_, rfl, rfl, rfl, rfl, h⟩)
def wX7_ways (a1 : Int32) (I : QI) (post : Int32 → QI → Prop) (px : String → QI → Prop) : Prop := (wX4_find a1 I (fun r1 => (r1 = none → (px "java/lang/IndexOutOfBoundsException" I)) ∧ (∀ t2 : Nat, t2 < 4 → r1 = some t2 → (wX5_hasColumn t2 1 I (fun r3 => ((¬ r3 = 0 → (wX5_pathPairs t2 I (fun r5 I4 => post r5 I4))) ∧ (r3 = 0 → (px "java/lang/IllegalStateException" I))))))))
set_option maxRecDepth 100000 in
set_option maxHeartbeats 4000000 in
theorem s_mX7_ways {X : QX} {S : QS} {a1 : Int32} {I : QI} {J : QJ} {post : Int32 → QI → Prop} {px : String → QI → Prop} (hS : Sh S) (h : wX7_ways a1 I post px) : CX X mX7_ways 4 1 6 [.ref 0, .int a1] S I J (q_Px S (fun r I2 J2 => J = J2 ∧ post r I2) (fun E I2 J2 => J = J2 ∧ px E I2)) := by
  refine CX.of (lo := [(0, .ref 0), (1, .int a1)]) ok_mX7_ways rfl (Nat.le_of_ble_eq_true rfl) rfl ?_
  replace h : (wX4_find a1 I (fun r1 => (r1 = none → (px "java/lang/IndexOutOfBoundsException" I)) ∧ (∀ t2 : Nat, t2 < 4 → r1 = some t2 → (wX5_hasColumn t2 1 I (fun r3 => ((¬ r3 = 0 → (wX5_pathPairs t2 I (fun r5 I4 => post r5 I4))) ∧ (r3 = 0 → (px "java/lang/IllegalStateException" I)))))))) := h
  refine V_aload_n dX7_ways_0 rfl rfl ?_
  refine V_getr dX7_ways_1 fl_RX7_10 (hS.n 0 rfl) (hS.k 0 7 rfl) rfl (hS.r 0 0 1 rfl) ?_
  refine V_iload_n dX7_ways_4 rfl rfl ?_
  refine V_callVt (st := []) [.int a1] dX7_ways_5 ok_mX4_find rfl ml_RX7_78 in_mX4_find se_mX4_find (hS.n 1 rfl) (hS.k 1 4 rfl) (by decide) rfl (Nat.le_of_ble_eq_true rfl) (by decide) (by decide) (by decide) (s_mX4_find hS h) (fun I9 J9 h => ?_) (fun t2 I9 J9 ht2 h => ?_)
  · obtain ⟨rfl, rfl, h⟩ := h
    replace h := h.1 rfl
    refine V_astore_nN (lo2 := [(2, .null), (0, .ref 0), (1, .int a1)]) dX7_ways_8 rfl (by decide) rfl ?_
    refine V_aload_nN dX7_ways_9 rfl rfl ?_
    refine V_ifnonnullN dX7_ways_10 ?_
    exact V_throw (text := "no such table") dX7_ways_13 dX7_ways_16 dX7_ways_17 dX7_ways_19 dX7_ways_22 rfl (by decide +kernel) (by decide +kernel) rfl (by decide) (by decide) (by decide) (Or.inr ⟨_, rfl, rfl, rfl, h⟩)
  · obtain ⟨rfl, rfl, h⟩ := h
    replace h := h.2 t2 ht2 rfl
    refine V_astore_n (lo2 := [(2, .ref (3 + 3 * t2)), (0, .ref 0), (1, .int a1)]) dX7_ways_8 rfl (by decide) rfl ?_
    refine V_aload_n dX7_ways_9 rfl rfl ?_
    refine V_ifnonnull 23 dX7_ways_10 rfl ?_
    refine V_aload_n dX7_ways_23 rfl rfl ?_
    refine V_iconst (v := 1) dX7_ways_24 (by decide) ?_
    refine V_callVi (st := []) [.int 1] dX7_ways_25 ok_mX5_hasColumn rfl ml_RX7_244 in_mX5_hasColumn se_mX5_hasColumn (hS.tn ht2 3 rfl) (hS.tk ht2) (by decide) rfl (Nat.le_of_ble_eq_true rfl) (by decide) (by decide) (by decide) (s_mX5_hasColumn hS ht2 h) (fun r3 I9 J9 h => ?_)
    obtain ⟨rfl, rfl, h⟩ := h
    refine V_if_ne 41 dX7_ways_28 rfl (fun hc => ?_) (fun hc => ?_)
    · replace h := h.1 hc
      refine V_aload_n dX7_ways_41 rfl rfl ?_
      refine V_callVi (st := []) [] dX7_ways_42 ok_mX5_pathPairs rfl ml_RX7_248 in_mX5_pathPairs se_mX5_pathPairs (hS.tn ht2 3 rfl) (hS.tk ht2) (by decide) rfl (Nat.le_of_ble_eq_true rfl) (by decide) (by decide) (by decide) (s_mX5_pathPairs hS ht2 h) (fun r5 I4 J9 h => ?_)
      obtain ⟨rfl, h⟩ := h
      exact V_iret dX7_ways_45 rfl (by decide) (by decide) (Or.inl ⟨_, rfl, rfl, rfl, h⟩)
    · replace h := h.2 hc
      exact V_throw (text := "the table has 1 column") dX7_ways_31 dX7_ways_34 dX7_ways_35 dX7_ways_37 dX7_ways_40 rfl (by decide +kernel) (by decide +kernel) rfl (by decide) (by decide) (by decide) (Or.inr ⟨_, rfl, rfl, rfl, h⟩)
def wX7_rewrite (a1 : Int32) (I : QI) (post : Int32 → QI → Prop) (px : String → QI → Prop) : Prop := (wX2_has a1 I (fun r1 => ((¬ r1 = 0 → (wX3_rewritten a1 I (fun r3 I2 => ((¬ r3 = (-1) → post r3 I2) ∧ (r3 = (-1) → (px "java/lang/IllegalStateException" I2)))))) ∧ (r1 = 0 → (px "java/lang/IndexOutOfBoundsException" I)))))
set_option maxRecDepth 100000 in
set_option maxHeartbeats 4000000 in
theorem s_mX7_rewrite {X : QX} {S : QS} {a1 : Int32} {I : QI} {J : QJ} {post : Int32 → QI → Prop} {px : String → QI → Prop} (hS : Sh S) (h : wX7_rewrite a1 I post px) : CX X mX7_rewrite 64 1 6 [.ref 0, .int a1] S I J (q_Px S (fun r I2 J2 => J = J2 ∧ post r I2) (fun E I2 J2 => J = J2 ∧ px E I2)) := by
  refine CX.of (lo := [(0, .ref 0), (1, .int a1)]) ok_mX7_rewrite rfl (Nat.le_of_ble_eq_true rfl) rfl ?_
  replace h : (wX2_has a1 I (fun r1 => ((¬ r1 = 0 → (wX3_rewritten a1 I (fun r3 I2 => ((¬ r3 = (-1) → post r3 I2) ∧ (r3 = (-1) → (px "java/lang/IllegalStateException" I2)))))) ∧ (r1 = 0 → (px "java/lang/IndexOutOfBoundsException" I))))) := h
  refine V_aload_n dX7_rewrite_0 rfl rfl ?_
  refine V_getr dX7_rewrite_1 fl_RX7_21 (hS.n 0 rfl) (hS.k 0 7 rfl) rfl (hS.r 0 1 15 rfl) ?_
  refine V_iload_n dX7_rewrite_4 rfl rfl ?_
  refine V_callVi (st := []) [.int a1] dX7_rewrite_5 ok_mX2_has rfl ml_RX7_153 in_mX2_has se_mX2_has (hS.n 15 rfl) (hS.k 15 2 rfl) (by decide) rfl (Nat.le_of_ble_eq_true rfl) (by decide) (by decide) (by decide) (s_mX2_has hS h) (fun r1 I9 J9 h => ?_)
  obtain ⟨rfl, rfl, h⟩ := h
  refine V_if_ne 21 dX7_rewrite_8 rfl (fun hc => ?_) (fun hc => ?_)
  · replace h := h.1 hc
    refine V_aload_n dX7_rewrite_21 rfl rfl ?_
    refine V_getr dX7_rewrite_22 fl_RX7_39 (hS.n 0 rfl) (hS.k 0 7 rfl) rfl (hS.r 0 3 30 rfl) ?_
    refine V_iload_n dX7_rewrite_25 rfl rfl ?_
    refine V_callVi (st := []) [.int a1] dX7_rewrite_26 ok_mX3_rewritten rfl ml_RX7_187 in_mX3_rewritten se_mX3_rewritten (hS.n 30 rfl) (hS.k 30 3 rfl) (by decide) rfl (Nat.le_of_ble_eq_true rfl) (by decide) (by decide) (by decide) (s_mX3_rewritten hS h) (fun r3 I2 J9 h => ?_)
    obtain ⟨rfl, h⟩ := h
    refine V_istore_n (lo2 := [(2, .int r3), (0, .ref 0), (1, .int a1)]) dX7_rewrite_29 rfl (by decide) rfl ?_
    refine V_iload_n dX7_rewrite_30 rfl rfl ?_
    refine V_iconst (v := (-1)) dX7_rewrite_31 (by decide) ?_
    refine V_icmp_ne 45 dX7_rewrite_32 rfl (fun hc => ?_) (fun hc => ?_)
    · replace h := h.1 hc
      refine V_iload_n dX7_rewrite_45 rfl rfl ?_
      exact V_iret dX7_rewrite_46 rfl (by decide) (by decide) (Or.inl ⟨_, rfl, rfl, rfl, h⟩)
    · replace h := h.2 hc
      exact V_throw (text := "there would be more than 24 nodes") dX7_rewrite_35 dX7_rewrite_38 dX7_rewrite_39 dX7_rewrite_41 dX7_rewrite_44 rfl (by decide +kernel) (by decide +kernel) rfl (by decide) (by decide) (by decide) (Or.inr ⟨_, rfl, rfl, rfl, h⟩)
  · replace h := h.2 hc
    exact V_throw (text := "no such node") dX7_rewrite_11 dX7_rewrite_14 dX7_rewrite_15 dX7_rewrite_17 dX7_rewrite_20 rfl (by decide +kernel) (by decide +kernel) rfl (by decide) (by decide) (by decide) (Or.inr ⟨_, rfl, rfl, rfl, h⟩)
