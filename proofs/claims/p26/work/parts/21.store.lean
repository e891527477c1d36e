def wX4_open (a1 : Int32) (I : QI) (post : Int32 → QI → Prop) : Prop := (((I 1 1) < 4 → (vp_in (I 1 1) 4 ∧ ∀ t1 : Nat, t1 < 4 → t1 = ((I 1 1)).toNatClampNeg → (wX5_open t1 a1 I (fun I2 => (∀ I3 : QI, I3 = q_u2 I2 1 1 ((I2 1 1) + 1) → post ((I3 1 1) - 1) I3))))) ∧ (¬ (I 1 1) < 4 → post (-1) I))
set_option maxRecDepth 100000 in
set_option maxHeartbeats 4000000 in
theorem s_mX4_open {X : QX} {S : QS} {a1 : Int32} {I : QI} {J : QJ} {post : Int32 → QI → Prop} (hS : Sh S) (h : wX4_open a1 I post) : CX X mX4_open 1 0 0 [.ref 1, .int a1] S I J (q_Pi S (fun r I2 J2 => J = J2 ∧ post r I2)) := by
  refine CX.of (lo := [(0, .ref 1), (1, .int a1)]) ok_mX4_open rfl (Nat.le_of_ble_eq_true rfl) rfl ?_
  replace h : (((I 1 1) < 4 → (vp_in (I 1 1) 4 ∧ ∀ t1 : Nat, t1 < 4 → t1 = ((I 1 1)).toNatClampNeg → (wX5_open t1 a1 I (fun I2 => (∀ I3 : QI, I3 = q_u2 I2 1 1 ((I2 1 1) + 1) → post ((I3 1 1) - 1) I3))))) ∧ (¬ (I 1 1) < 4 → post (-1) I)) := h
  refine V_aload_n dX4_open_0 rfl rfl ?_
  refine V_geti dX4_open_1 fl_RX4_22 (hS.n 1 rfl) (hS.k 1 4 rfl) rfl ?_
  refine V_iconst (v := 4) dX4_open_4 (by decide) ?_
  refine V_icmp_lt 10 dX4_open_5 rfl (fun hc => ?_) (fun hc => ?_)
  · replace h := h.1 hc
    refine V_aload_n dX4_open_10 rfl rfl ?_
    refine V_getr dX4_open_11 fl_RX4_11 (hS.n 1 rfl) (hS.k 1 4 rfl) rfl (hS.r 1 0 2 rfl) ?_
    refine V_aload_n dX4_open_14 rfl rfl ?_
    refine V_geti dX4_open_15 fl_RX4_22 (hS.n 1 rfl) (hS.k 1 4 rfl) rfl ?_
    obtain ⟨hb, h⟩ := h
    refine V_aaldT hS dX4_open_18 hb rfl (fun ht9 => ?_)
    obtain ⟨t1, e_t1⟩ : ∃ z : Nat, z = ((I 1 1)).toNatClampNeg := ⟨_, rfl⟩
    rw [← e_t1] at ht9 ⊢
    have ht1 := ht9
    replace h := h t1 ht9 e_t1
    refine V_astore_n (lo2 := [(2, .ref (3 + 3 * t1)), (0, .ref 1), (1, .int a1)]) dX4_open_19 rfl (by decide) rfl ?_
    refine V_aload_n dX4_open_20 rfl rfl ?_
    refine V_ifnonnull 26 dX4_open_21 rfl ?_
    refine V_aload_n dX4_open_26 rfl rfl ?_
    refine V_iload_n dX4_open_27 rfl rfl ?_
    refine V_callVv (st := []) [.int a1] dX4_open_28 ok_mX5_open rfl ml_RX4_25 in_mX5_open se_mX5_open (hS.tn ht1 3 rfl) (hS.tk ht1) (by decide) rfl (Nat.le_of_ble_eq_true rfl) (by decide) (by decide) (by decide) (s_mX5_open hS ht1 h) (fun I2 J9 h => ?_)
    obtain ⟨rfl, h⟩ := h
    refine V_aload_n dX4_open_31 rfl rfl ?_
    refine V_dup dX4_open_32 rfl ?_
    refine V_geti dX4_open_33 fl_RX4_22 (hS.n 1 rfl) (hS.k 1 4 rfl) rfl ?_
    refine V_iconst (v := 1) dX4_open_36 (by decide) ?_
    refine V_iadd dX4_open_37 ?_
    refine V_puti dX4_open_38 fl_RX4_22 rfl (hS.n 1 rfl) (hS.k 1 4 rfl) rfl rfl rfl ?_
    refine V_memI (fun I3 e_I3 => ?_)
    replace h := h I3 e_I3
    refine V_aload_n dX4_open_41 rfl rfl ?_
    refine V_geti dX4_open_42 fl_RX4_22 (hS.n 1 rfl) (hS.k 1 4 rfl) rfl ?_
    refine V_iconst (v := 1) dX4_open_45 (by decide) ?_
    refine V_isub dX4_open_46 ?_
    exact V_iret dX4_open_47 rfl (by decide) (by decide) ⟨_, rfl, rfl, rfl, h⟩
  · replace h := h.2 hc
    refine V_iconst (v := (-1)) dX4_open_8 (by decide) ?_
    exact V_iret dX4_open_9 rfl (by decide) (by decide) ⟨_, rfl, rfl, rfl, h⟩
def wX4_find (a1 : Int32) (I : QI) (post : Option Nat → Prop) : Prop := ((a1 < 0 → post none) ∧ (¬ a1 < 0 → (((I 1 1) ≤ a1 → post none) ∧ (¬ (I 1 1) ≤ a1 → ((4 ≤ a1 → post none) ∧ (¬ 4 ≤ a1 → (vp_in a1 4 ∧ ∀ t1 : Nat, t1 < 4 → t1 = (a1).toNatClampNeg → post (some t1))))))))
set_option maxRecDepth 100000 in
set_option maxHeartbeats 4000000 in
theorem s_mX4_find {X : QX} {S : QS} {a1 : Int32} {I : QI} {J : QJ} {post : Option Nat → Prop} (hS : Sh S) (h : wX4_find a1 I post) : CX X mX4_find 0 0 0 [.ref 1, .int a1] S I J (q_Pt S (fun r I2 J2 => I = I2 ∧ J = J2 ∧ post r)) := by
  refine CX.of (lo := [(0, .ref 1), (1, .int a1)]) ok_mX4_find rfl (Nat.le_of_ble_eq_true rfl) rfl ?_
  replace h : ((a1 < 0 → post none) ∧ (¬ a1 < 0 → (((I 1 1) ≤ a1 → post none) ∧ (¬ (I 1 1) ≤ a1 → ((4 ≤ a1 → post none) ∧ (¬ 4 ≤ a1 → (vp_in a1 4 ∧ ∀ t1 : Nat, t1 < 4 → t1 = (a1).toNatClampNeg → post (some t1)))))))) := h
  refine V_iload_n dX4_find_0 rfl rfl ?_
  refine V_if_lt 26 dX4_find_1 rfl (fun hc => ?_) (fun hc => ?_)
  · replace h := h.1 hc
    refine V_null dX4_find_26 ?_
    exact V_aret dX4_find_27 rfl (Or.inl ⟨_, rfl⟩) (Or.inl rfl) (by decide) (by decide) ⟨none, rfl, rfl, (fun _ z => nomatch z), rfl, rfl, h⟩
  · replace h := h.2 hc
    refine V_iload_n dX4_find_4 rfl rfl ?_
    refine V_aload_n dX4_find_5 rfl rfl ?_
    refine V_geti dX4_find_6 fl_RX4_22 (hS.n 1 rfl) (hS.k 1 4 rfl) rfl ?_
    refine V_icmp_ge 26 dX4_find_9 rfl (fun hc => ?_) (fun hc => ?_)
    · replace h := h.1 hc
      refine V_null dX4_find_26 ?_
      exact V_aret dX4_find_27 rfl (Or.inl ⟨_, rfl⟩) (Or.inl rfl) (by decide) (by decide) ⟨none, rfl, rfl, (fun _ z => nomatch z), rfl, rfl, h⟩
    · replace h := h.2 hc
      refine V_iload_n dX4_find_12 rfl rfl ?_
      refine V_iconst (v := 4) dX4_find_13 (by decide) ?_
      refine V_icmp_ge 26 dX4_find_14 rfl (fun hc => ?_) (fun hc => ?_)
      · replace h := h.1 hc
        refine V_null dX4_find_26 ?_
        exact V_aret dX4_find_27 rfl (Or.inl ⟨_, rfl⟩) (Or.inl rfl) (by decide) (by decide) ⟨none, rfl, rfl, (fun _ z => nomatch z), rfl, rfl, h⟩
      · replace h := h.2 hc
        refine V_aload_n dX4_find_17 rfl rfl ?_
        refine V_getr dX4_find_18 fl_RX4_11 (hS.n 1 rfl) (hS.k 1 4 rfl) rfl (hS.r 1 0 2 rfl) ?_
        refine V_iload_n dX4_find_21 rfl rfl ?_
        obtain ⟨hb, h⟩ := h
        refine V_aaldT hS dX4_find_22 hb rfl (fun ht9 => ?_)
        obtain ⟨t1, e_t1⟩ : ∃ z : Nat, z = (a1).toNatClampNeg := ⟨_, rfl⟩
        rw [← e_t1] at ht9 ⊢
        have ht1 := ht9
        replace h := h t1 ht9 e_t1
        refine V_goto 27 dX4_find_23 rfl ?_
        exact V_aret dX4_find_27 rfl (Or.inl ⟨_, rfl⟩) (Or.inr ⟨_, rfl⟩) (by decide) (by decide) ⟨some t1, rfl, rfl, (fun _ z => by cases z; exact ht1), rfl, rfl, h⟩
def wX4_noteChange (I : QI) (post : QI → Prop) : Prop := (∀ I1 : QI, I1 = q_u2 I 1 2 ((I 1 2) + 1) → post I1)
set_option maxRecDepth 100000 in
set_option maxHeartbeats 4000000 in
theorem s_mX4_noteChange {X : QX} {S : QS} {I : QI} {J : QJ} {post : QI → Prop} (hS : Sh S) (h : wX4_noteChange I post) : CX X mX4_noteChange 0 0 0 [.ref 1] S I J (q_Pv S (fun I2 J2 => J = J2 ∧ post I2)) := by
  refine CX.of (lo := [(0, .ref 1)]) ok_mX4_noteChange rfl (Nat.le_of_ble_eq_true rfl) rfl ?_
  replace h : (∀ I1 : QI, I1 = q_u2 I 1 2 ((I 1 2) + 1) → post I1) := h
  refine V_aload_n dX4_noteChange_0 rfl rfl ?_
  refine V_dup dX4_noteChange_1 rfl ?_
  refine V_geti dX4_noteChange_2 fl_RX4_18 (hS.n 1 rfl) (hS.k 1 4 rfl) rfl ?_
  refine V_iconst (v := 1) dX4_noteChange_5 (by decide) ?_
  refine V_iadd dX4_noteChange_6 ?_
  refine V_puti dX4_noteChange_7 fl_RX4_18 rfl (hS.n 1 rfl) (hS.k 1 4 rfl) rfl rfl rfl ?_
  refine V_memI (fun I1 e_I1 => ?_)
  replace h := h I1 e_I1
  exact V_vret dX4_noteChange_10 rfl (by decide) (by decide) ⟨rfl, rfl, rfl, h⟩
def wX2_widthOf (a1 : Int32) (I : QI) (post : Int32 → Prop) : Prop := ((a1 < 0 → post 0) ∧ (¬ a1 < 0 → (((I 15 8) ≤ a1 → post 0) ∧ (¬ (I 15 8) ≤ a1 → (vp_in a1 24 ∧ post (I 22 (a1).toNatClampNeg))))))
set_option maxRecDepth 100000 in
set_option maxHeartbeats 4000000 in
theorem s_mX2_widthOf {X : QX} {S : QS} {a1 : Int32} {I : QI} {J : QJ} {post : Int32 → Prop} (hS : Sh S) (h : wX2_widthOf a1 I post) : CX X mX2_widthOf 0 0 0 [.ref 15, .int a1] S I J (q_Pi S (fun r I2 J2 => I = I2 ∧ J = J2 ∧ post r)) := by
  refine CX.of (lo := [(0, .ref 15), (1, .int a1)]) ok_mX2_widthOf rfl (Nat.le_of_ble_eq_true rfl) rfl ?_
  replace h : ((a1 < 0 → post 0) ∧ (¬ a1 < 0 → (((I 15 8) ≤ a1 → post 0) ∧ (¬ (I 15 8) ≤ a1 → (vp_in a1 24 ∧ post (I 22 (a1).toNatClampNeg)))))) := h
  refine V_iload_n dX2_widthOf_0 rfl rfl ?_
  refine V_if_lt 21 dX2_widthOf_1 rfl (fun hc => ?_) (fun hc => ?_)
  · replace h := h.1 hc
    refine V_iconst (v := 0) dX2_widthOf_21 (by decide) ?_
    exact V_iret dX2_widthOf_22 rfl (by decide) (by decide) ⟨_, rfl, rfl, rfl, rfl, h⟩
  · replace h := h.2 hc
    refine V_iload_n dX2_widthOf_4 rfl rfl ?_
    refine V_aload_n dX2_widthOf_5 rfl rfl ?_
    refine V_geti dX2_widthOf_6 fl_RX2_37 (hS.n 15 rfl) (hS.k 15 2 rfl) rfl ?_
    refine V_icmp_ge 21 dX2_widthOf_9 rfl (fun hc => ?_) (fun hc => ?_)
    · replace h := h.1 hc
      refine V_iconst (v := 0) dX2_widthOf_21 (by decide) ?_
      exact V_iret dX2_widthOf_22 rfl (by decide) (by decide) ⟨_, rfl, rfl, rfl, rfl, h⟩
    · replace h := h.2 hc
      refine V_aload_n dX2_widthOf_12 rfl rfl ?_
      refine V_getr dX2_widthOf_13 fl_RX2_34 (hS.n 15 rfl) (hS.k 15 2 rfl) rfl (hS.r 15 7 22 rfl) ?_
      refine V_iload_n dX2_widthOf_16 rfl rfl ?_
      obtain ⟨hb, h⟩ := h
      refine V_iald dX2_widthOf_17 (hS.n 22 rfl) (hS.k 22 9 rfl) (by rw [(hS.z 22 24 rfl)]; exact hb) ?_
      refine V_goto 22 dX2_widthOf_18 rfl ?_
      exact V_iret dX2_widthOf_22 rfl (by decide) (by decide) ⟨_, rfl, rfl, rfl, rfl, h⟩
def wX2_widthMade (a1 : Int32) (a2 : Int32) (a3 : Int32) (a4 : Int32) (I : QI) (post : Int32 → Prop) : Prop := ((¬ a1 = 0 → ((¬ a1 = 3 → ((¬ a1 = 2 → (wX2_widthOf a2 I (fun r1 => post r1))) ∧ (a1 = 2 → ((a4 = 0 → (wX2_widthOf a2 I (fun r2 => (wX2_widthOf a3 I (fun r3 => post (r2 + r3)))))) ∧ (¬ a4 = 0 → ((¬ a4 = 1 → (wX2_widthOf a2 I (fun r4 => post r4))) ∧ (a4 = 1 → (wX2_widthOf a2 I (fun r5 => (wX2_widthOf a3 I (fun r6 => post (r5 + r6)))))))))))) ∧ (a1 = 3 → post 2))) ∧ (a1 = 0 → (wX4_find a2 I (fun r7 => (r7 = none → post 0) ∧ (∀ t8 : Nat, t8 < 4 → r7 = some t8 → (wX5_columns t8 I (fun r9 => post r9)))))))
set_option maxRecDepth 100000 in
set_option maxHeartbeats 4000000 in
theorem s_mX2_widthMade {X : QX} {S : QS} {a1 : Int32} {a2 : Int32} {a3 : Int32} {a4 : Int32} {I : QI} {J : QJ} {post : Int32 → Prop} (hS : Sh S) (h : wX2_widthMade a1 a2 a3 a4 I post) : CX X mX2_widthMade 1 0 0 [.ref 15, .int a1, .int a2, .int a3, .int a4] S I J (q_Pi S (fun r I2 J2 => I = I2 ∧ J = J2 ∧ post r)) := by
  refine CX.of (lo := [(0, .ref 15), (1, .int a1), (2, .int a2), (3, .int a3), (4, .int a4)]) ok_mX2_widthMade rfl (Nat.le_of_ble_eq_true rfl) rfl ?_
  replace h : ((¬ a1 = 0 → ((¬ a1 = 3 → ((¬ a1 = 2 → (wX2_widthOf a2 I (fun r1 => post r1))) ∧ (a1 = 2 → ((a4 = 0 → (wX2_widthOf a2 I (fun r2 => (wX2_widthOf a3 I (fun r3 => post (r2 + r3)))))) ∧ (¬ a4 = 0 → ((¬ a4 = 1 → (wX2_widthOf a2 I (fun r4 => post r4))) ∧ (a4 = 1 → (wX2_widthOf a2 I (fun r5 => (wX2_widthOf a3 I (fun r6 => post (r5 + r6)))))))))))) ∧ (a1 = 3 → post 2))) ∧ (a1 = 0 → (wX4_find a2 I (fun r7 => (r7 = none → post 0) ∧ (∀ t8 : Nat, t8 < 4 → r7 = some t8 → (wX5_columns t8 I (fun r9 => post r9))))))) := h
  refine V_iload_n dX2_widthMade_0 rfl rfl ?_
  refine V_if_ne 29 dX2_widthMade_1 rfl (fun hc => ?_) (fun hc => ?_)
  · replace h := h.1 hc
    refine V_iload_n dX2_widthMade_29 rfl rfl ?_
    refine V_iconst (v := 3) dX2_widthMade_30 (by decide) ?_
    refine V_icmp_ne 36 dX2_widthMade_31 rfl (fun hc => ?_) (fun hc => ?_)
    · replace h := h.1 hc
      refine V_iload_n dX2_widthMade_36 rfl rfl ?_
      refine V_iconst (v := 2) dX2_widthMade_37 (by decide) ?_
      refine V_icmp_ne 56 dX2_widthMade_38 rfl (fun hc => ?_) (fun hc => ?_)
      · replace h := h.1 hc
        refine V_iconst (v := 0) dX2_widthMade_56 (by decide) ?_
        refine V_istore (lo2 := [(5, .int 0), (0, .ref 15), (1, .int a1), (2, .int a2), (3, .int a3), (4, .int a4)]) dX2_widthMade_57 (by decide) rfl ?_
        refine V_iload dX2_widthMade_59 rfl ?_
        refine V_if_eq 78 dX2_widthMade_61 rfl (fun hc => ?_) (fun hc => ?_)
        · refine V_aload_n dX2_widthMade_78 rfl rfl ?_
          refine V_iload_n dX2_widthMade_79 rfl rfl ?_
          refine V_callVi (st := []) [.int a2] dX2_widthMade_80 ok_mX2_widthOf rfl ml_RX2_41 in_mX2_widthOf se_mX2_widthOf (hS.n 15 rfl) (hS.k 15 2 rfl) (by decide) rfl (Nat.le_of_ble_eq_true rfl) (by decide) (by decide) (by decide) (s_mX2_widthOf hS h) (fun r1 I9 J9 h => ?_)
          obtain ⟨rfl, rfl, h⟩ := h
          exact V_iret dX2_widthMade_83 rfl (by decide) (by decide) ⟨_, rfl, rfl, rfl, rfl, h⟩
        · first | exact absurd hc (by decide) | exact absurd (by decide) hc
      · replace h := h.2 hc
        refine V_iload dX2_widthMade_41 rfl ?_
        refine V_if_eq 52 dX2_widthMade_43 rfl (fun hc => ?_) (fun hc => ?_)
        · replace h := h.1 hc
          refine V_iconst (v := 1) dX2_widthMade_52 (by decide) ?_
          refine V_goto 57 dX2_widthMade_53 rfl ?_
          refine V_istore (lo2 := [(5, .int 1), (0, .ref 15), (1, .int a1), (2, .int a2), (3, .int a3), (4, .int a4)]) dX2_widthMade_57 (by decide) rfl ?_
          refine V_iload dX2_widthMade_59 rfl ?_
          refine V_if_eq 78 dX2_widthMade_61 rfl (fun hc => ?_) (fun hc => ?_)
          · first | exact absurd hc (by decide) | exact absurd (by decide) hc
          · refine V_aload_n dX2_widthMade_64 rfl rfl ?_
            refine V_iload_n dX2_widthMade_65 rfl rfl ?_
            refine V_callVi (st := []) [.int a2] dX2_widthMade_66 ok_mX2_widthOf rfl ml_RX2_41 in_mX2_widthOf se_mX2_widthOf (hS.n 15 rfl) (hS.k 15 2 rfl) (by decide) rfl (Nat.le_of_ble_eq_true rfl) (by decide) (by decide) (by decide) (s_mX2_widthOf hS h) (fun r2 I9 J9 h => ?_)
            obtain ⟨rfl, rfl, h⟩ := h
            refine V_aload_n dX2_widthMade_69 rfl rfl ?_
            refine V_iload_n dX2_widthMade_70 rfl rfl ?_
            refine V_callVi (st := [.int r2]) [.int a3] dX2_widthMade_71 ok_mX2_widthOf rfl ml_RX2_41 in_mX2_widthOf se_mX2_widthOf (hS.n 15 rfl) (hS.k 15 2 rfl) (by decide) rfl (Nat.le_of_ble_eq_true rfl) (by decide) (by decide) (by decide) (s_mX2_widthOf hS h) (fun r3 I9 J9 h => ?_)
            obtain ⟨rfl, rfl, h⟩ := h
            refine V_iadd dX2_widthMade_74 ?_
            refine V_goto 83 dX2_widthMade_75 rfl ?_
            exact V_iret dX2_widthMade_83 rfl (by decide) (by decide) ⟨_, rfl, rfl, rfl, rfl, h⟩
        · replace h := h.2 hc
          refine V_iload dX2_widthMade_46 rfl ?_
          refine V_iconst (v := 1) dX2_widthMade_48 (by decide) ?_
          refine V_icmp_ne 56 dX2_widthMade_49 rfl (fun hc => ?_) (fun hc => ?_)
          · replace h := h.1 hc
            refine V_iconst (v := 0) dX2_widthMade_56 (by decide) ?_
            refine V_istore (lo2 := [(5, .int 0), (0, .ref 15), (1, .int a1), (2, .int a2), (3, .int a3), (4, .int a4)]) dX2_widthMade_57 (by decide) rfl ?_
            refine V_iload dX2_widthMade_59 rfl ?_
            refine V_if_eq 78 dX2_widthMade_61 rfl (fun hc => ?_) (fun hc => ?_)
            · refine V_aload_n dX2_widthMade_78 rfl rfl ?_
              refine V_iload_n dX2_widthMade_79 rfl rfl ?_
              refine V_callVi (st := []) [.int a2] dX2_widthMade_80 ok_mX2_widthOf rfl ml_RX2_41 in_mX2_widthOf se_mX2_widthOf (hS.n 15 rfl) (hS.k 15 2 rfl) (by decide) rfl (Nat.le_of_ble_eq_true rfl) (by decide) (by decide) (by decide) (s_mX2_widthOf hS h) (fun r4 I9 J9 h => ?_)
              obtain ⟨rfl, rfl, h⟩ := h
              exact V_iret dX2_widthMade_83 rfl (by decide) (by decide) ⟨_, rfl, rfl, rfl, rfl, h⟩
            · first | exact absurd hc (by decide) | exact absurd (by decide) hc
          · replace h := h.2 hc
            refine V_iconst (v := 1) dX2_widthMade_52 (by decide) ?_
            refine V_goto 57 dX2_widthMade_53 rfl ?_
            refine V_istore (lo2 := [(5, .int 1), (0, .ref 15), (1, .int a1), (2, .int a2), (3, .int a3), (4, .int a4)]) dX2_widthMade_57 (by decide) rfl ?_
            refine V_iload dX2_widthMade_59 rfl ?_
            refine V_if_eq 78 dX2_widthMade_61 rfl (fun hc => ?_) (fun hc => ?_)
            · first | exact absurd hc (by decide) | exact absurd (by decide) hc
            · refine V_aload_n dX2_widthMade_64 rfl rfl ?_
              refine V_iload_n dX2_widthMade_65 rfl rfl ?_
              refine V_callVi (st := []) [.int a2] dX2_widthMade_66 ok_mX2_widthOf rfl ml_RX2_41 in_mX2_widthOf se_mX2_widthOf (hS.n 15 rfl) (hS.k 15 2 rfl) (by decide) rfl (Nat.le_of_ble_eq_true rfl) (by decide) (by decide) (by decide) (s_mX2_widthOf hS h) (fun r5 I9 J9 h => ?_)
              obtain ⟨rfl, rfl, h⟩ := h
              refine V_aload_n dX2_widthMade_69 rfl rfl ?_
              refine V_iload_n dX2_widthMade_70 rfl rfl ?_
              refine V_callVi (st := [.int r5]) [.int a3] dX2_widthMade_71 ok_mX2_widthOf rfl ml_RX2_41 in_mX2_widthOf se_mX2_widthOf (hS.n 15 rfl) (hS.k 15 2 rfl) (by decide) rfl (Nat.le_of_ble_eq_true rfl) (by decide) (by decide) (by decide) (s_mX2_widthOf hS h) (fun r6 I9 J9 h => ?_)
              obtain ⟨rfl, rfl, h⟩ := h
              refine V_iadd dX2_widthMade_74 ?_
              refine V_goto 83 dX2_widthMade_75 rfl ?_
              exact V_iret dX2_widthMade_83 rfl (by decide) (by decide) ⟨_, rfl, rfl, rfl, rfl, h⟩
    · replace h := h.2 hc
      refine V_iconst (v := 2) dX2_widthMade_34 (by decide) ?_
      exact V_iret dX2_widthMade_35 rfl (by decide) (by decide) ⟨_, rfl, rfl, rfl, rfl, h⟩
  · replace h := h.2 hc
    refine V_aload_n dX2_widthMade_4 rfl rfl ?_
    refine V_getr dX2_widthMade_5 fl_RX2_9 (hS.n 15 rfl) (hS.k 15 2 rfl) rfl (hS.r 15 0 1 rfl) ?_
    refine V_iload_n dX2_widthMade_8 rfl rfl ?_
    refine V_callVt (st := []) [.int a2] dX2_widthMade_9 ok_mX4_find rfl ml_RX2_45 in_mX4_find se_mX4_find (hS.n 1 rfl) (hS.k 1 4 rfl) (by decide) rfl (Nat.le_of_ble_eq_true rfl) (by decide) (by decide) (by decide) (s_mX4_find hS h) (fun I9 J9 h => ?_) (fun t8 I9 J9 ht8 h => ?_)
    · obtain ⟨rfl, rfl, h⟩ := h
      replace h := h.1 rfl
      refine V_astoreN (lo2 := [(5, .null), (0, .ref 15), (1, .int a1), (2, .int a2), (3, .int a3), (4, .int a4)]) dX2_widthMade_12 (by decide) rfl ?_
      refine V_aloadN dX2_widthMade_14 rfl ?_
      refine V_ifnonnullN dX2_widthMade_16 ?_
      refine V_iconst (v := 0) dX2_widthMade_19 (by decide) ?_
      refine V_goto 28 dX2_widthMade_20 rfl ?_
      exact V_iret dX2_widthMade_28 rfl (by decide) (by decide) ⟨_, rfl, rfl, rfl, rfl, h⟩
    · obtain ⟨rfl, rfl, h⟩ := h
      replace h := h.2 t8 ht8 rfl
      refine V_astore (lo2 := [(5, .ref (3 + 3 * t8)), (0, .ref 15), (1, .int a1), (2, .int a2), (3, .int a3), (4, .int a4)]) dX2_widthMade_12 (by decide) rfl ?_
      refine V_aload dX2_widthMade_14 rfl ?_
      refine V_ifnonnull 23 dX2_widthMade_16 rfl ?_
      refine V_aload dX2_widthMade_23 rfl ?_
      refine V_callVi (st := []) [] dX2_widthMade_25 ok_mX5_columns rfl ml_RX2_51 in_mX5_columns se_mX5_columns (hS.tn ht8 3 rfl) (hS.tk ht8) (by decide) rfl (Nat.le_of_ble_eq_true rfl) (by decide) (by decide) (by decide) (s_mX5_columns hS ht8 h) (fun r9 I9 J9 h => ?_)
      obtain ⟨rfl, rfl, h⟩ := h
      exact V_iret dX2_widthMade_28 rfl (by decide) (by decide) ⟨_, rfl, rfl, rfl, rfl, h⟩
def wX2_make_3 (a1 : Int32) (a2 : Int32) (a3 : Int32) (a4 : Int32) (a5 : Int32) (a6 : Int32) (K97 : QI → Prop) (post : Int32 → QI → Prop) : Nat → Int32 → QI → Prop
  | 0, _, _ => False
  | n + 1, x7, I => (((I 15 8) ≤ x7 → (K97 I)) ∧ (¬ (I 15 8) ≤ x7 → ((24 ≤ x7 → (K97 I)) ∧ (¬ 24 ≤ x7 → (vp_in x7 24 ∧ ((¬ (I 16 (x7).toNatClampNeg) = a1 → (∀ v1 : Int32, v1 = (x7 + 1) → (wX2_make_3 a1 a2 a3 a4 a5 a6 K97 post n v1 I))) ∧ ((I 16 (x7).toNatClampNeg) = a1 → (vp_in x7 24 ∧ ((¬ (I 17 (x7).toNatClampNeg) = a2 → (∀ v2 : Int32, v2 = (x7 + 1) → (wX2_make_3 a1 a2 a3 a4 a5 a6 K97 post n v2 I))) ∧ ((I 17 (x7).toNatClampNeg) = a2 → (vp_in x7 24 ∧ ((¬ (I 18 (x7).toNatClampNeg) = a3 → (∀ v3 : Int32, v3 = (x7 + 1) → (wX2_make_3 a1 a2 a3 a4 a5 a6 K97 post n v3 I))) ∧ ((I 18 (x7).toNatClampNeg) = a3 → (vp_in x7 24 ∧ ((¬ (I 19 (x7).toNatClampNeg) = a4 → (∀ v4 : Int32, v4 = (x7 + 1) → (wX2_make_3 a1 a2 a3 a4 a5 a6 K97 post n v4 I))) ∧ ((I 19 (x7).toNatClampNeg) = a4 → (vp_in x7 24 ∧ ((¬ (I 20 (x7).toNatClampNeg) = a5 → (∀ v5 : Int32, v5 = (x7 + 1) → (wX2_make_3 a1 a2 a3 a4 a5 a6 K97 post n v5 I))) ∧ ((I 20 (x7).toNatClampNeg) = a5 → (vp_in x7 24 ∧ ((¬ (I 21 (x7).toNatClampNeg) = a6 → (∀ v6 : Int32, v6 = (x7 + 1) → (wX2_make_3 a1 a2 a3 a4 a5 a6 K97 post n v6 I))) ∧ ((I 21 (x7).toNatClampNeg) = a6 → post x7 I))))))))))))))))))))))
set_option maxRecDepth 100000 in
set_option maxHeartbeats 4000000 in
theorem swX2_make_3 {X : QX} {S : QS} {a1 : Int32} {a2 : Int32} {a3 : Int32} {a4 : Int32} {a5 : Int32} {a6 : Int32} {J : QJ} {K97 : QI → Prop} {post : Int32 → QI → Prop} (hS : Sh S) (hK97 : ∀ (I : QI), K97 I → V X mX2_make 2 0 0 (q_Pi S (fun r I2 J2 => J = J2 ∧ post r I2)) 97 [(0, .ref 15), (1, .int a1), (2, .int a2), (3, .int a3), (4, .int a4), (5, .int a5), (6, .int a6)] [] S I J 0 0) : ∀ (f : Nat) (x7 : Int32) (I : QI), wX2_make_3 a1 a2 a3 a4 a5 a6 K97 post f x7 I → V X mX2_make 2 0 0 (q_Pi S (fun r I2 J2 => J = J2 ∧ post r I2)) 3 [(0, .ref 15), (1, .int a1), (2, .int a2), (3, .int a3), (4, .int a4), (5, .int a5), (6, .int a6), (7, .int x7)] [] S I J 0 0 := by
  intro f
  induction f with
  | zero => intro x7 I h; exact h.elim
  | succ n ih =>
    intro x7 I h
    replace h : (((I 15 8) ≤ x7 → (K97 I)) ∧ (¬ (I 15 8) ≤ x7 → ((24 ≤ x7 → (K97 I)) ∧ (¬ 24 ≤ x7 → (vp_in x7 24 ∧ ((¬ (I 16 (x7).toNatClampNeg) = a1 → (∀ v1 : Int32, v1 = (x7 + 1) → (wX2_make_3 a1 a2 a3 a4 a5 a6 K97 post n v1 I))) ∧ ((I 16 (x7).toNatClampNeg) = a1 → (vp_in x7 24 ∧ ((¬ (I 17 (x7).toNatClampNeg) = a2 → (∀ v2 : Int32, v2 = (x7 + 1) → (wX2_make_3 a1 a2 a3 a4 a5 a6 K97 post n v2 I))) ∧ ((I 17 (x7).toNatClampNeg) = a2 → (vp_in x7 24 ∧ ((¬ (I 18 (x7).toNatClampNeg) = a3 → (∀ v3 : Int32, v3 = (x7 + 1) → (wX2_make_3 a1 a2 a3 a4 a5 a6 K97 post n v3 I))) ∧ ((I 18 (x7).toNatClampNeg) = a3 → (vp_in x7 24 ∧ ((¬ (I 19 (x7).toNatClampNeg) = a4 → (∀ v4 : Int32, v4 = (x7 + 1) → (wX2_make_3 a1 a2 a3 a4 a5 a6 K97 post n v4 I))) ∧ ((I 19 (x7).toNatClampNeg) = a4 → (vp_in x7 24 ∧ ((¬ (I 20 (x7).toNatClampNeg) = a5 → (∀ v5 : Int32, v5 = (x7 + 1) → (wX2_make_3 a1 a2 a3 a4 a5 a6 K97 post n v5 I))) ∧ ((I 20 (x7).toNatClampNeg) = a5 → (vp_in x7 24 ∧ ((¬ (I 21 (x7).toNatClampNeg) = a6 → (∀ v6 : Int32, v6 = (x7 + 1) → (wX2_make_3 a1 a2 a3 a4 a5 a6 K97 post n v6 I))) ∧ ((I 21 (x7).toNatClampNeg) = a6 → post x7 I)))))))))))))))))))))) := h
    refine V_iload dX2_make_3 rfl ?_
    refine V_aload_n dX2_make_5 rfl rfl ?_
    refine V_geti dX2_make_6 fl_RX2_37 (hS.n 15 rfl) (hS.k 15 2 rfl) rfl ?_
    refine V_icmp_ge 97 dX2_make_9 rfl (fun hc => ?_) (fun hc => ?_)
    · replace h := h.1 hc
      refine V_sub (lo2 := [(0, .ref 15), (1, .int a1), (2, .int a2), (3, .int a3), (4, .int a4), (5, .int a5), (6, .int a6)]) [0, 1, 2, 3, 4, 5, 6] rfl ?_
      exact hK97 _ h
    · replace h := h.2 hc
      refine V_iload dX2_make_12 rfl ?_
      refine V_bipush (v := 24) dX2_make_14 (by decide) ?_
      refine V_icmp_ge 97 dX2_make_16 rfl (fun hc => ?_) (fun hc => ?_)
      · replace h := h.1 hc
        refine V_sub (lo2 := [(0, .ref 15), (1, .int a1), (2, .int a2), (3, .int a3), (4, .int a4), (5, .int a5), (6, .int a6)]) [0, 1, 2, 3, 4, 5, 6] rfl ?_
        exact hK97 _ h
      · replace h := h.2 hc
        refine V_aload_n dX2_make_19 rfl rfl ?_
        refine V_getr dX2_make_20 fl_RX2_15 (hS.n 15 rfl) (hS.k 15 2 rfl) rfl (hS.r 15 1 16 rfl) ?_
        refine V_iload dX2_make_23 rfl ?_
        obtain ⟨hb, h⟩ := h
        refine V_iald dX2_make_25 (hS.n 16 rfl) (hS.k 16 9 rfl) (by rw [(hS.z 16 24 rfl)]; exact hb) ?_
        refine V_iload_n dX2_make_26 rfl rfl ?_
        refine V_icmp_ne 91 dX2_make_27 rfl (fun hc => ?_) (fun hc => ?_)
        · replace h := h.1 hc
          obtain ⟨v1, e_v1⟩ : ∃ z : Int32, z = (x7 + 1) := ⟨_, rfl⟩
          replace h := h v1 e_v1
          refine V_iinc (lo2 := [(7, .int v1), (0, .ref 15), (1, .int a1), (2, .int a2), (3, .int a3), (4, .int a4), (5, .int a5), (6, .int a6)]) 7 dX2_make_91 rfl (v := v1) (by rw [e_v1]; first | done | rfl) (by decide) rfl ?_
          refine V_goto 3 dX2_make_94 rfl ?_
          refine V_sub (lo2 := [(0, .ref 15), (1, .int a1), (2, .int a2), (3, .int a3), (4, .int a4), (5, .int a5), (6, .int a6), (7, .int v1)]) [1, 2, 3, 4, 5, 6, 7, 0] rfl ?_
          exact ih _ _ h
        · replace h := h.2 hc
          refine V_aload_n dX2_make_30 rfl rfl ?_
          refine V_getr dX2_make_31 fl_RX2_19 (hS.n 15 rfl) (hS.k 15 2 rfl) rfl (hS.r 15 2 17 rfl) ?_
          refine V_iload dX2_make_34 rfl ?_
          obtain ⟨hb, h⟩ := h
          refine V_iald dX2_make_36 (hS.n 17 rfl) (hS.k 17 9 rfl) (by rw [(hS.z 17 24 rfl)]; exact hb) ?_
          refine V_iload_n dX2_make_37 rfl rfl ?_
          refine V_icmp_ne 91 dX2_make_38 rfl (fun hc => ?_) (fun hc => ?_)
          · replace h := h.1 hc
            obtain ⟨v2, e_v2⟩ : ∃ z : Int32, z = (x7 + 1) := ⟨_, rfl⟩
            replace h := h v2 e_v2
            refine V_iinc (lo2 := [(7, .int v2), (0, .ref 15), (1, .int a1), (2, .int a2), (3, .int a3), (4, .int a4), (5, .int a5), (6, .int a6)]) 7 dX2_make_91 rfl (v := v2) (by rw [e_v2]; first | done | rfl) (by decide) rfl ?_
            refine V_goto 3 dX2_make_94 rfl ?_
            refine V_sub (lo2 := [(0, .ref 15), (1, .int a1), (2, .int a2), (3, .int a3), (4, .int a4), (5, .int a5), (6, .int a6), (7, .int v2)]) [1, 2, 3, 4, 5, 6, 7, 0] rfl ?_
            exact ih _ _ h
          · replace h := h.2 hc
            refine V_aload_n dX2_make_41 rfl rfl ?_
            refine V_getr dX2_make_42 fl_RX2_22 (hS.n 15 rfl) (hS.k 15 2 rfl) rfl (hS.r 15 3 18 rfl) ?_
            refine V_iload dX2_make_45 rfl ?_
            obtain ⟨hb, h⟩ := h
            refine V_iald dX2_make_47 (hS.n 18 rfl) (hS.k 18 9 rfl) (by rw [(hS.z 18 24 rfl)]; exact hb) ?_
            refine V_iload_n dX2_make_48 rfl rfl ?_
            refine V_icmp_ne 91 dX2_make_49 rfl (fun hc => ?_) (fun hc => ?_)
            · replace h := h.1 hc
              obtain ⟨v3, e_v3⟩ : ∃ z : Int32, z = (x7 + 1) := ⟨_, rfl⟩
              replace h := h v3 e_v3
              refine V_iinc (lo2 := [(7, .int v3), (0, .ref 15), (1, .int a1), (2, .int a2), (3, .int a3), (4, .int a4), (5, .int a5), (6, .int a6)]) 7 dX2_make_91 rfl (v := v3) (by rw [e_v3]; first | done | rfl) (by decide) rfl ?_
              refine V_goto 3 dX2_make_94 rfl ?_
              refine V_sub (lo2 := [(0, .ref 15), (1, .int a1), (2, .int a2), (3, .int a3), (4, .int a4), (5, .int a5), (6, .int a6), (7, .int v3)]) [1, 2, 3, 4, 5, 6, 7, 0] rfl ?_
              exact ih _ _ h
            · replace h := h.2 hc
              refine V_aload_n dX2_make_52 rfl rfl ?_
              refine V_getr dX2_make_53 fl_RX2_25 (hS.n 15 rfl) (hS.k 15 2 rfl) rfl (hS.r 15 4 19 rfl) ?_
              refine V_iload dX2_make_56 rfl ?_
              obtain ⟨hb, h⟩ := h
              refine V_iald dX2_make_58 (hS.n 19 rfl) (hS.k 19 9 rfl) (by rw [(hS.z 19 24 rfl)]; exact hb) ?_
              refine V_iload dX2_make_59 rfl ?_
              refine V_icmp_ne 91 dX2_make_61 rfl (fun hc => ?_) (fun hc => ?_)
              · replace h := h.1 hc
                obtain ⟨v4, e_v4⟩ : ∃ z : Int32, z = (x7 + 1) := ⟨_, rfl⟩
                replace h := h v4 e_v4
                refine V_iinc (lo2 := [(7, .int v4), (0, .ref 15), (1, .int a1), (2, .int a2), (3, .int a3), (4, .int a4), (5, .int a5), (6, .int a6)]) 7 dX2_make_91 rfl (v := v4) (by rw [e_v4]; first | done | rfl) (by decide) rfl ?_
                refine V_goto 3 dX2_make_94 rfl ?_
                refine V_sub (lo2 := [(0, .ref 15), (1, .int a1), (2, .int a2), (3, .int a3), (4, .int a4), (5, .int a5), (6, .int a6), (7, .int v4)]) [1, 2, 3, 4, 5, 6, 7, 0] rfl ?_
                exact ih _ _ h
              · replace h := h.2 hc
                refine V_aload_n dX2_make_64 rfl rfl ?_
                refine V_getr dX2_make_65 fl_RX2_28 (hS.n 15 rfl) (hS.k 15 2 rfl) rfl (hS.r 15 5 20 rfl) ?_
                refine V_iload dX2_make_68 rfl ?_
                obtain ⟨hb, h⟩ := h
                refine V_iald dX2_make_70 (hS.n 20 rfl) (hS.k 20 9 rfl) (by rw [(hS.z 20 24 rfl)]; exact hb) ?_
                refine V_iload dX2_make_71 rfl ?_
                refine V_icmp_ne 91 dX2_make_73 rfl (fun hc => ?_) (fun hc => ?_)
                · replace h := h.1 hc
                  obtain ⟨v5, e_v5⟩ : ∃ z : Int32, z = (x7 + 1) := ⟨_, rfl⟩
                  replace h := h v5 e_v5
                  refine V_iinc (lo2 := [(7, .int v5), (0, .ref 15), (1, .int a1), (2, .int a2), (3, .int a3), (4, .int a4), (5, .int a5), (6, .int a6)]) 7 dX2_make_91 rfl (v := v5) (by rw [e_v5]; first | done | rfl) (by decide) rfl ?_
                  refine V_goto 3 dX2_make_94 rfl ?_
                  refine V_sub (lo2 := [(0, .ref 15), (1, .int a1), (2, .int a2), (3, .int a3), (4, .int a4), (5, .int a5), (6, .int a6), (7, .int v5)]) [1, 2, 3, 4, 5, 6, 7, 0] rfl ?_
                  exact ih _ _ h
                · replace h := h.2 hc
                  refine V_aload_n dX2_make_76 rfl rfl ?_
                  refine V_getr dX2_make_77 fl_RX2_31 (hS.n 15 rfl) (hS.k 15 2 rfl) rfl (hS.r 15 6 21 rfl) ?_
                  refine V_iload dX2_make_80 rfl ?_
                  obtain ⟨hb, h⟩ := h
                  refine V_iald dX2_make_82 (hS.n 21 rfl) (hS.k 21 9 rfl) (by rw [(hS.z 21 24 rfl)]; exact hb) ?_
                  refine V_iload dX2_make_83 rfl ?_
                  refine V_icmp_ne 91 dX2_make_85 rfl (fun hc => ?_) (fun hc => ?_)
                  · replace h := h.1 hc
                    obtain ⟨v6, e_v6⟩ : ∃ z : Int32, z = (x7 + 1) := ⟨_, rfl⟩
                    replace h := h v6 e_v6
                    refine V_iinc (lo2 := [(7, .int v6), (0, .ref 15), (1, .int a1), (2, .int a2), (3, .int a3), (4, .int a4), (5, .int a5), (6, .int a6)]) 7 dX2_make_91 rfl (v := v6) (by rw [e_v6]; first | done | rfl) (by decide) rfl ?_
                    refine V_goto 3 dX2_make_94 rfl ?_
                    refine V_sub (lo2 := [(0, .ref 15), (1, .int a1), (2, .int a2), (3, .int a3), (4, .int a4), (5, .int a5), (6, .int a6), (7, .int v6)]) [1, 2, 3, 4, 5, 6, 7, 0] rfl ?_
                    exact ih _ _ h
                  · replace h := h.2 hc
                    refine V_iload dX2_make_88 rfl ?_
                    exact V_iret dX2_make_90 rfl (by decide) (by decide) ⟨_, rfl, rfl, rfl, h⟩
def wX2_make (a1 : Int32) (a2 : Int32) (a3 : Int32) (a4 : Int32) (a5 : Int32) (a6 : Int32) (I : QI) (post : Int32 → QI → Prop) : Prop := (∃ f : Nat, wX2_make_3 a1 a2 a3 a4 a5 a6 (fun I7 => (((I7 15 8) < 24 → (vp_in (I7 15 8) 24 ∧ (∀ I8 : QI, I8 = q_u2 I7 16 ((I7 15 8)).toNatClampNeg a1 → (vp_in (I8 15 8) 24 ∧ (∀ I9 : QI, I9 = q_u2 I8 17 ((I8 15 8)).toNatClampNeg a2 → (vp_in (I9 15 8) 24 ∧ (∀ I10 : QI, I10 = q_u2 I9 18 ((I9 15 8)).toNatClampNeg a3 → (vp_in (I10 15 8) 24 ∧ (∀ I11 : QI, I11 = q_u2 I10 19 ((I10 15 8)).toNatClampNeg a4 → (vp_in (I11 15 8) 24 ∧ (∀ I12 : QI, I12 = q_u2 I11 20 ((I11 15 8)).toNatClampNeg a5 → (vp_in (I12 15 8) 24 ∧ (∀ I13 : QI, I13 = q_u2 I12 21 ((I12 15 8)).toNatClampNeg a6 → (wX2_widthMade a1 a2 a3 a4 I13 (fun r14 => (vp_in (I13 15 8) 24 ∧ (∀ I15 : QI, I15 = q_u2 I13 22 ((I13 15 8)).toNatClampNeg r14 → (∀ I16 : QI, I16 = q_u2 I15 15 8 ((I15 15 8) + 1) → post ((I16 15 8) - 1) I16)))))))))))))))))) ∧ (¬ (I7 15 8) < 24 → post (-1) I7))) post f 0 I)
set_option maxRecDepth 100000 in
set_option maxHeartbeats 4000000 in
theorem s_mX2_make {X : QX} {S : QS} {a1 : Int32} {a2 : Int32} {a3 : Int32} {a4 : Int32} {a5 : Int32} {a6 : Int32} {I : QI} {J : QJ} {post : Int32 → QI → Prop} (hS : Sh S) (h : wX2_make a1 a2 a3 a4 a5 a6 I post) : CX X mX2_make 2 0 0 [.ref 15, .int a1, .int a2, .int a3, .int a4, .int a5, .int a6] S I J (q_Pi S (fun r I2 J2 => J = J2 ∧ post r I2)) := by
  refine CX.of (lo := [(0, .ref 15), (1, .int a1), (2, .int a2), (3, .int a3), (4, .int a4), (5, .int a5), (6, .int a6)]) ok_mX2_make rfl (Nat.le_of_ble_eq_true rfl) rfl ?_
  replace h : (∃ f : Nat, wX2_make_3 a1 a2 a3 a4 a5 a6 (fun I7 => (((I7 15 8) < 24 → (vp_in (I7 15 8) 24 ∧ (∀ I8 : QI, I8 = q_u2 I7 16 ((I7 15 8)).toNatClampNeg a1 → (vp_in (I8 15 8) 24 ∧ (∀ I9 : QI, I9 = q_u2 I8 17 ((I8 15 8)).toNatClampNeg a2 → (vp_in (I9 15 8) 24 ∧ (∀ I10 : QI, I10 = q_u2 I9 18 ((I9 15 8)).toNatClampNeg a3 → (vp_in (I10 15 8) 24 ∧ (∀ I11 : QI, I11 = q_u2 I10 19 ((I10 15 8)).toNatClampNeg a4 → (vp_in (I11 15 8) 24 ∧ (∀ I12 : QI, I12 = q_u2 I11 20 ((I11 15 8)).toNatClampNeg a5 → (vp_in (I12 15 8) 24 ∧ (∀ I13 : QI, I13 = q_u2 I12 21 ((I12 15 8)).toNatClampNeg a6 → (wX2_widthMade a1 a2 a3 a4 I13 (fun r14 => (vp_in (I13 15 8) 24 ∧ (∀ I15 : QI, I15 = q_u2 I13 22 ((I13 15 8)).toNatClampNeg r14 → (∀ I16 : QI, I16 = q_u2 I15 15 8 ((I15 15 8) + 1) → post ((I16 15 8) - 1) I16)))))))))))))))))) ∧ (¬ (I7 15 8) < 24 → post (-1) I7))) post f 0 I) := h
  refine V_iconst (v := 0) dX2_make_0 (by decide) ?_
  refine V_istore (lo2 := [(7, .int 0), (0, .ref 15), (1, .int a1), (2, .int a2), (3, .int a3), (4, .int a4), (5, .int a5), (6, .int a6)]) dX2_make_1 (by decide) rfl ?_
  refine V_sub (lo2 := [(0, .ref 15), (1, .int a1), (2, .int a2), (3, .int a3), (4, .int a4), (5, .int a5), (6, .int a6), (7, .int 0)]) [1, 2, 3, 4, 5, 6, 7, 0] rfl ?_
  obtain ⟨f9, h⟩ := h
  refine swX2_make_3 hS ?_ f9 _ _ h
  · intro I7 h
    refine V_aload_n dX2_make_97 rfl rfl ?_
    refine V_geti dX2_make_98 fl_RX2_37 (hS.n 15 rfl) (hS.k 15 2 rfl) rfl ?_
    refine V_bipush (v := 24) dX2_make_101 (by decide) ?_
    refine V_icmp_lt 108 dX2_make_103 rfl (fun hc => ?_) (fun hc => ?_)
    · replace h := h.1 hc
      refine V_aload_n dX2_make_108 rfl rfl ?_
      refine V_getr dX2_make_109 fl_RX2_15 (hS.n 15 rfl) (hS.k 15 2 rfl) rfl (hS.r 15 1 16 rfl) ?_
      refine V_aload_n dX2_make_112 rfl rfl ?_
      refine V_geti dX2_make_113 fl_RX2_37 (hS.n 15 rfl) (hS.k 15 2 rfl) rfl ?_
      refine V_iload_n dX2_make_116 rfl rfl ?_
      obtain ⟨hb, h⟩ := h
      refine V_iast dX2_make_117 (hS.n 16 rfl) (hS.k 16 9 rfl) (by rw [(hS.z 16 24 rfl)]; exact hb) ?_
      refine V_memI (fun I8 e_I8 => ?_)
      replace h := h I8 e_I8
      refine V_aload_n dX2_make_118 rfl rfl ?_
      refine V_getr dX2_make_119 fl_RX2_19 (hS.n 15 rfl) (hS.k 15 2 rfl) rfl (hS.r 15 2 17 rfl) ?_
      refine V_aload_n dX2_make_122 rfl rfl ?_
      refine V_geti dX2_make_123 fl_RX2_37 (hS.n 15 rfl) (hS.k 15 2 rfl) rfl ?_
      refine V_iload_n dX2_make_126 rfl rfl ?_
      obtain ⟨hb, h⟩ := h
      refine V_iast dX2_make_127 (hS.n 17 rfl) (hS.k 17 9 rfl) (by rw [(hS.z 17 24 rfl)]; exact hb) ?_
      refine V_memI (fun I9 e_I9 => ?_)
      replace h := h I9 e_I9
      refine V_aload_n dX2_make_128 rfl rfl ?_
      refine V_getr dX2_make_129 fl_RX2_22 (hS.n 15 rfl) (hS.k 15 2 rfl) rfl (hS.r 15 3 18 rfl) ?_
      refine V_aload_n dX2_make_132 rfl rfl ?_
      refine V_geti dX2_make_133 fl_RX2_37 (hS.n 15 rfl) (hS.k 15 2 rfl) rfl ?_
      refine V_iload_n dX2_make_136 rfl rfl ?_
      obtain ⟨hb, h⟩ := h
      refine V_iast dX2_make_137 (hS.n 18 rfl) (hS.k 18 9 rfl) (by rw [(hS.z 18 24 rfl)]; exact hb) ?_
      refine V_memI (fun I10 e_I10 => ?_)
      replace h := h I10 e_I10
      refine V_aload_n dX2_make_138 rfl rfl ?_
      refine V_getr dX2_make_139 fl_RX2_25 (hS.n 15 rfl) (hS.k 15 2 rfl) rfl (hS.r 15 4 19 rfl) ?_
      refine V_aload_n dX2_make_142 rfl rfl ?_
      refine V_geti dX2_make_143 fl_RX2_37 (hS.n 15 rfl) (hS.k 15 2 rfl) rfl ?_
      refine V_iload dX2_make_146 rfl ?_
      obtain ⟨hb, h⟩ := h
      refine V_iast dX2_make_148 (hS.n 19 rfl) (hS.k 19 9 rfl) (by rw [(hS.z 19 24 rfl)]; exact hb) ?_
      refine V_memI (fun I11 e_I11 => ?_)
      replace h := h I11 e_I11
      refine V_aload_n dX2_make_149 rfl rfl ?_
      refine V_getr dX2_make_150 fl_RX2_28 (hS.n 15 rfl) (hS.k 15 2 rfl) rfl (hS.r 15 5 20 rfl) ?_
      refine V_aload_n dX2_make_153 rfl rfl ?_
      refine V_geti dX2_make_154 fl_RX2_37 (hS.n 15 rfl) (hS.k 15 2 rfl) rfl ?_
      refine V_iload dX2_make_157 rfl ?_
      obtain ⟨hb, h⟩ := h
      refine V_iast dX2_make_159 (hS.n 20 rfl) (hS.k 20 9 rfl) (by rw [(hS.z 20 24 rfl)]; exact hb) ?_
      refine V_memI (fun I12 e_I12 => ?_)
      replace h := h I12 e_I12
      refine V_aload_n dX2_make_160 rfl rfl ?_
      refine V_getr dX2_make_161 fl_RX2_31 (hS.n 15 rfl) (hS.k 15 2 rfl) rfl (hS.r 15 6 21 rfl) ?_
      refine V_aload_n dX2_make_164 rfl rfl ?_
      refine V_geti dX2_make_165 fl_RX2_37 (hS.n 15 rfl) (hS.k 15 2 rfl) rfl ?_
      refine V_iload dX2_make_168 rfl ?_
      obtain ⟨hb, h⟩ := h
      refine V_iast dX2_make_170 (hS.n 21 rfl) (hS.k 21 9 rfl) (by rw [(hS.z 21 24 rfl)]; exact hb) ?_
      refine V_memI (fun I13 e_I13 => ?_)
      replace h := h I13 e_I13
      refine V_aload_n dX2_make_171 rfl rfl ?_
      refine V_getr dX2_make_172 fl_RX2_34 (hS.n 15 rfl) (hS.k 15 2 rfl) rfl (hS.r 15 7 22 rfl) ?_
      refine V_aload_n dX2_make_175 rfl rfl ?_
      refine V_geti dX2_make_176 fl_RX2_37 (hS.n 15 rfl) (hS.k 15 2 rfl) rfl ?_
      refine V_aload_n dX2_make_179 rfl rfl ?_
      refine V_iload_n dX2_make_180 rfl rfl ?_
      refine V_iload_n dX2_make_181 rfl rfl ?_
      refine V_iload_n dX2_make_182 rfl rfl ?_
      refine V_iload dX2_make_183 rfl ?_
      refine V_callVi (st := [.int (I13 15 8), .ref 22]) [.int a1, .int a2, .int a3, .int a4] dX2_make_185 ok_mX2_widthMade rfl ml_RX2_56 in_mX2_widthMade se_mX2_widthMade (hS.n 15 rfl) (hS.k 15 2 rfl) (by decide) rfl (Nat.le_of_ble_eq_true rfl) (by decide) (by decide) (by decide) (s_mX2_widthMade hS h) (fun r14 I9 J9 h => ?_)
      obtain ⟨rfl, rfl, h⟩ := h
      obtain ⟨hb, h⟩ := h
      refine V_iast dX2_make_188 (hS.n 22 rfl) (hS.k 22 9 rfl) (by rw [(hS.z 22 24 rfl)]; exact hb) ?_
      refine V_memI (fun I15 e_I15 => ?_)
      replace h := h I15 e_I15
      refine V_aload_n dX2_make_189 rfl rfl ?_
      refine V_dup dX2_make_190 rfl ?_
      refine V_geti dX2_make_191 fl_RX2_37 (hS.n 15 rfl) (hS.k 15 2 rfl) rfl ?_
      refine V_iconst (v := 1) dX2_make_194 (by decide) ?_
      refine V_iadd dX2_make_195 ?_
      refine V_puti dX2_make_196 fl_RX2_37 rfl (hS.n 15 rfl) (hS.k 15 2 rfl) rfl rfl rfl ?_
      refine V_memI (fun I16 e_I16 => ?_)
      replace h := h I16 e_I16
      refine V_aload_n dX2_make_199 rfl rfl ?_
      refine V_geti dX2_make_200 fl_RX2_37 (hS.n 15 rfl) (hS.k 15 2 rfl) rfl ?_
      refine V_iconst (v := 1) dX2_make_203 (by decide) ?_
      refine V_isub dX2_make_204 ?_
      exact V_iret dX2_make_205 rfl (by decide) (by decide) ⟨_, rfl, rfl, rfl, h⟩
    · replace h := h.2 hc
      refine V_iconst (v := (-1)) dX2_make_106 (by decide) ?_
      exact V_iret dX2_make_107 rfl (by decide) (by decide) ⟨_, rfl, rfl, rfl, h⟩
def wX2_hasColumn (a1 : Int32) (a2 : Int32) (I : QI) (post : Int32 → Prop) : Prop := ((a2 < 0 → post 0) ∧ (¬ a2 < 0 → (wX2_widthOf a1 I (fun r1 => ((r1 ≤ a2 → post 0) ∧ (¬ r1 ≤ a2 → post 1))))))
set_option maxRecDepth 100000 in
set_option maxHeartbeats 4000000 in
theorem s_mX2_hasColumn {X : QX} {S : QS} {a1 : Int32} {a2 : Int32} {I : QI} {J : QJ} {post : Int32 → Prop} (hS : Sh S) (h : wX2_hasColumn a1 a2 I post) : CX X mX2_hasColumn 1 0 0 [.ref 15, .int a1, .int a2] S I J (q_Pi S (fun r I2 J2 => I = I2 ∧ J = J2 ∧ post r)) := by
  refine CX.of (lo := [(0, .ref 15), (1, .int a1), (2, .int a2)]) ok_mX2_hasColumn rfl (Nat.le_of_ble_eq_true rfl) rfl ?_
  replace h : ((a2 < 0 → post 0) ∧ (¬ a2 < 0 → (wX2_widthOf a1 I (fun r1 => ((r1 ≤ a2 → post 0) ∧ (¬ r1 ≤ a2 → post 1)))))) := h
  refine V_iload_n dX2_hasColumn_0 rfl rfl ?_
  refine V_if_lt 17 dX2_hasColumn_1 rfl (fun hc => ?_) (fun hc => ?_)
  · replace h := h.1 hc
    refine V_iconst (v := 0) dX2_hasColumn_17 (by decide) ?_
    exact V_zret dX2_hasColumn_18 rfl (by decide) (by decide) (by decide) ⟨_, rfl, rfl, rfl, rfl, h⟩
  · replace h := h.2 hc
    refine V_iload_n dX2_hasColumn_4 rfl rfl ?_
    refine V_aload_n dX2_hasColumn_5 rfl rfl ?_
    refine V_iload_n dX2_hasColumn_6 rfl rfl ?_
    refine V_callVi (st := [.int a2]) [.int a1] dX2_hasColumn_7 ok_mX2_widthOf rfl ml_RX2_41 in_mX2_widthOf se_mX2_widthOf (hS.n 15 rfl) (hS.k 15 2 rfl) (by decide) rfl (Nat.le_of_ble_eq_true rfl) (by decide) (by decide) (by decide) (s_mX2_widthOf hS h) (fun r1 I9 J9 h => ?_)
    obtain ⟨rfl, rfl, h⟩ := h
    refine V_icmp_ge 17 dX2_hasColumn_10 rfl (fun hc => ?_) (fun hc => ?_)
    · replace h := h.1 hc
      refine V_iconst (v := 0) dX2_hasColumn_17 (by decide) ?_
      exact V_zret dX2_hasColumn_18 rfl (by decide) (by decide) (by decide) ⟨_, rfl, rfl, rfl, rfl, h⟩
    · replace h := h.2 hc
      refine V_iconst (v := 1) dX2_hasColumn_13 (by decide) ?_
      refine V_goto 18 dX2_hasColumn_14 rfl ?_
      exact V_zret dX2_hasColumn_18 rfl (by decide) (by decide) (by decide) ⟨_, rfl, rfl, rfl, rfl, h⟩
def wX2_has (a1 : Int32) (I : QI) (post : Int32 → Prop) : Prop := ((a1 < 0 → post 0) ∧ (¬ a1 < 0 → (((I 15 8) ≤ a1 → post 0) ∧ (¬ (I 15 8) ≤ a1 → post 1))))
set_option maxRecDepth 100000 in
set_option maxHeartbeats 4000000 in
theorem s_mX2_has {X : QX} {S : QS} {a1 : Int32} {I : QI} {J : QJ} {post : Int32 → Prop} (hS : Sh S) (h : wX2_has a1 I post) : CX X mX2_has 0 0 0 [.ref 15, .int a1] S I J (q_Pi S (fun r I2 J2 => I = I2 ∧ J = J2 ∧ post r)) := by
  refine CX.of (lo := [(0, .ref 15), (1, .int a1)]) ok_mX2_has rfl (Nat.le_of_ble_eq_true rfl) rfl ?_
  replace h : ((a1 < 0 → post 0) ∧ (¬ a1 < 0 → (((I 15 8) ≤ a1 → post 0) ∧ (¬ (I 15 8) ≤ a1 → post 1)))) := h
  refine V_iload_n dX2_has_0 rfl rfl ?_
  refine V_if_lt 16 dX2_has_1 rfl (fun hc => ?_) (fun hc => ?_)
  · replace h := h.1 hc
    refine V_iconst (v := 0) dX2_has_16 (by decide) ?_
    exact V_zret dX2_has_17 rfl (by decide) (by decide) (by decide) ⟨_, rfl, rfl, rfl, rfl, h⟩
  · replace h := h.2 hc
    refine V_iload_n dX2_has_4 rfl rfl ?_
    refine V_aload_n dX2_has_5 rfl rfl ?_
    refine V_geti dX2_has_6 fl_RX2_37 (hS.n 15 rfl) (hS.k 15 2 rfl) rfl ?_
    refine V_icmp_ge 16 dX2_has_9 rfl (fun hc => ?_) (fun hc => ?_)
    · replace h := h.1 hc
      refine V_iconst (v := 0) dX2_has_16 (by decide) ?_
      exact V_zret dX2_has_17 rfl (by decide) (by decide) (by decide) ⟨_, rfl, rfl, rfl, rfl, h⟩
    · replace h := h.2 hc
      refine V_iconst (v := 1) dX2_has_12 (by decide) ?_
      refine V_goto 17 dX2_has_13 rfl ?_
      exact V_zret dX2_has_17 rfl (by decide) (by decide) (by decide) ⟨_, rfl, rfl, rfl, rfl, h⟩
def wX2_firstOf (a1 : Int32) (I : QI) (post : Int32 → Prop) : Prop := ((a1 < 0 → post (-1)) ∧ (¬ a1 < 0 → (((I 15 8) ≤ a1 → post (-1)) ∧ (¬ (I 15 8) ≤ a1 → (vp_in a1 24 ∧ post (I 17 (a1).toNatClampNeg))))))
set_option maxRecDepth 100000 in
set_option maxHeartbeats 4000000 in
theorem s_mX2_firstOf {X : QX} {S : QS} {a1 : Int32} {I : QI} {J : QJ} {post : Int32 → Prop} (hS : Sh S) (h : wX2_firstOf a1 I post) : CX X mX2_firstOf 0 0 0 [.ref 15, .int a1] S I J (q_Pi S (fun r I2 J2 => I = I2 ∧ J = J2 ∧ post r)) := by
  refine CX.of (lo := [(0, .ref 15), (1, .int a1)]) ok_mX2_firstOf rfl (Nat.le_of_ble_eq_true rfl) rfl ?_
  replace h : ((a1 < 0 → post (-1)) ∧ (¬ a1 < 0 → (((I 15 8) ≤ a1 → post (-1)) ∧ (¬ (I 15 8) ≤ a1 → (vp_in a1 24 ∧ post (I 17 (a1).toNatClampNeg)))))) := h
  refine V_iload_n dX2_firstOf_0 rfl rfl ?_
  refine V_if_lt 21 dX2_firstOf_1 rfl (fun hc => ?_) (fun hc => ?_)
  · replace h := h.1 hc
    refine V_iconst (v := (-1)) dX2_firstOf_21 (by decide) ?_
    exact V_iret dX2_firstOf_22 rfl (by decide) (by decide) ⟨_, rfl, rfl, rfl, rfl, h⟩
  · replace h := h.2 hc
    refine V_iload_n dX2_firstOf_4 rfl rfl ?_
    refine V_aload_n dX2_firstOf_5 rfl rfl ?_
    refine V_geti dX2_firstOf_6 fl_RX2_37 (hS.n 15 rfl) (hS.k 15 2 rfl) rfl ?_
    refine V_icmp_ge 21 dX2_firstOf_9 rfl (fun hc => ?_) (fun hc => ?_)
    · replace h := h.1 hc
      refine V_iconst (v := (-1)) dX2_firstOf_21 (by decide) ?_
      exact V_iret dX2_firstOf_22 rfl (by decide) (by decide) ⟨_, rfl, rfl, rfl, rfl, h⟩
    · replace h := h.2 hc
      refine V_aload_n dX2_firstOf_12 rfl rfl ?_
      refine V_getr dX2_firstOf_13 fl_RX2_19 (hS.n 15 rfl) (hS.k 15 2 rfl) rfl (hS.r 15 2 17 rfl) ?_
      refine V_iload_n dX2_firstOf_16 rfl rfl ?_
      obtain ⟨hb, h⟩ := h
      refine V_iald dX2_firstOf_17 (hS.n 17 rfl) (hS.k 17 9 rfl) (by rw [(hS.z 17 24 rfl)]; exact hb) ?_
      refine V_goto 22 dX2_firstOf_18 rfl ?_
      exact V_iret dX2_firstOf_22 rfl (by decide) (by decide) ⟨_, rfl, rfl, rfl, rfl, h⟩
def wX2_secondOf (a1 : Int32) (I : QI) (post : Int32 → Prop) : Prop := ((a1 < 0 → post (-1)) ∧ (¬ a1 < 0 → (((I 15 8) ≤ a1 → post (-1)) ∧ (¬ (I 15 8) ≤ a1 → (vp_in a1 24 ∧ post (I 18 (a1).toNatClampNeg))))))
set_option maxRecDepth 100000 in
set_option maxHeartbeats 4000000 in
theorem s_mX2_secondOf {X : QX} {S : QS} {a1 : Int32} {I : QI} {J : QJ} {post : Int32 → Prop} (hS : Sh S) (h : wX2_secondOf a1 I post) : CX X mX2_secondOf 0 0 0 [.ref 15, .int a1] S I J (q_Pi S (fun r I2 J2 => I = I2 ∧ J = J2 ∧ post r)) := by
  refine CX.of (lo := [(0, .ref 15), (1, .int a1)]) ok_mX2_secondOf rfl (Nat.le_of_ble_eq_true rfl) rfl ?_
  replace h : ((a1 < 0 → post (-1)) ∧ (¬ a1 < 0 → (((I 15 8) ≤ a1 → post (-1)) ∧ (¬ (I 15 8) ≤ a1 → (vp_in a1 24 ∧ post (I 18 (a1).toNatClampNeg)))))) := h
  refine V_iload_n dX2_secondOf_0 rfl rfl ?_
  refine V_if_lt 21 dX2_secondOf_1 rfl (fun hc => ?_) (fun hc => ?_)
  · replace h := h.1 hc
    refine V_iconst (v := (-1)) dX2_secondOf_21 (by decide) ?_
    exact V_iret dX2_secondOf_22 rfl (by decide) (by decide) ⟨_, rfl, rfl, rfl, rfl, h⟩
  · replace h := h.2 hc
    refine V_iload_n dX2_secondOf_4 rfl rfl ?_
    refine V_aload_n dX2_secondOf_5 rfl rfl ?_
    refine V_geti dX2_secondOf_6 fl_RX2_37 (hS.n 15 rfl) (hS.k 15 2 rfl) rfl ?_
    refine V_icmp_ge 21 dX2_secondOf_9 rfl (fun hc => ?_) (fun hc => ?_)
    · replace h := h.1 hc
      refine V_iconst (v := (-1)) dX2_secondOf_21 (by decide) ?_
      exact V_iret dX2_secondOf_22 rfl (by decide) (by decide) ⟨_, rfl, rfl, rfl, rfl, h⟩
    · replace h := h.2 hc
      refine V_aload_n dX2_secondOf_12 rfl rfl ?_
      refine V_getr dX2_secondOf_13 fl_RX2_22 (hS.n 15 rfl) (hS.k 15 2 rfl) rfl (hS.r 15 3 18 rfl) ?_
      refine V_iload_n dX2_secondOf_16 rfl rfl ?_
      obtain ⟨hb, h⟩ := h
      refine V_iald dX2_secondOf_17 (hS.n 18 rfl) (hS.k 18 9 rfl) (by rw [(hS.z 18 24 rfl)]; exact hb) ?_
      refine V_goto 22 dX2_secondOf_18 rfl ?_
      exact V_iret dX2_secondOf_22 rfl (by decide) (by decide) ⟨_, rfl, rfl, rfl, rfl, h⟩
def wX2_typeOf (a1 : Int32) (I : QI) (post : Int32 → Prop) : Prop := ((a1 < 0 → post (-1)) ∧ (¬ a1 < 0 → (((I 15 8) ≤ a1 → post (-1)) ∧ (¬ (I 15 8) ≤ a1 → (vp_in a1 24 ∧ post (I 16 (a1).toNatClampNeg))))))
set_option maxRecDepth 100000 in
set_option maxHeartbeats 4000000 in
theorem s_mX2_typeOf {X : QX} {S : QS} {a1 : Int32} {I : QI} {J : QJ} {post : Int32 → Prop} (hS : Sh S) (h : wX2_typeOf a1 I post) : CX X mX2_typeOf 0 0 0 [.ref 15, .int a1] S I J (q_Pi S (fun r I2 J2 => I = I2 ∧ J = J2 ∧ post r)) := by
  refine CX.of (lo := [(0, .ref 15), (1, .int a1)]) ok_mX2_typeOf rfl (Nat.le_of_ble_eq_true rfl) rfl ?_
  replace h : ((a1 < 0 → post (-1)) ∧ (¬ a1 < 0 → (((I 15 8) ≤ a1 → post (-1)) ∧ (¬ (I 15 8) ≤ a1 → (vp_in a1 24 ∧ post (I 16 (a1).toNatClampNeg)))))) := h
  refine V_iload_n dX2_typeOf_0 rfl rfl ?_
  refine V_if_lt 21 dX2_typeOf_1 rfl (fun hc => ?_) (fun hc => ?_)
  · replace h := h.1 hc
    refine V_iconst (v := (-1)) dX2_typeOf_21 (by decide) ?_
    exact V_iret dX2_typeOf_22 rfl (by decide) (by decide) ⟨_, rfl, rfl, rfl, rfl, h⟩
  · replace h := h.2 hc
    refine V_iload_n dX2_typeOf_4 rfl rfl ?_
    refine V_aload_n dX2_typeOf_5 rfl rfl ?_
    refine V_geti dX2_typeOf_6 fl_RX2_37 (hS.n 15 rfl) (hS.k 15 2 rfl) rfl ?_
    refine V_icmp_ge 21 dX2_typeOf_9 rfl (fun hc => ?_) (fun hc => ?_)
    · replace h := h.1 hc
      refine V_iconst (v := (-1)) dX2_typeOf_21 (by decide) ?_
      exact V_iret dX2_typeOf_22 rfl (by decide) (by decide) ⟨_, rfl, rfl, rfl, rfl, h⟩
    · replace h := h.2 hc
      refine V_aload_n dX2_typeOf_12 rfl rfl ?_
      refine V_getr dX2_typeOf_13 fl_RX2_15 (hS.n 15 rfl) (hS.k 15 2 rfl) rfl (hS.r 15 1 16 rfl) ?_
      refine V_iload_n dX2_typeOf_16 rfl rfl ?_
      obtain ⟨hb, h⟩ := h
      refine V_iald dX2_typeOf_17 (hS.n 16 rfl) (hS.k 16 9 rfl) (by rw [(hS.z 16 24 rfl)]; exact hb) ?_
      refine V_goto 22 dX2_typeOf_18 rfl ?_
      exact V_iret dX2_typeOf_22 rfl (by decide) (by decide) ⟨_, rfl, rfl, rfl, rfl, h⟩
def wX2_kindOf (a1 : Int32) (I : QI) (post : Int32 → Prop) : Prop := ((a1 < 0 → post (-1)) ∧ (¬ a1 < 0 → (((I 15 8) ≤ a1 → post (-1)) ∧ (¬ (I 15 8) ≤ a1 → (vp_in a1 24 ∧ post (I 19 (a1).toNatClampNeg))))))
set_option maxRecDepth 100000 in
set_option maxHeartbeats 4000000 in
theorem s_mX2_kindOf {X : QX} {S : QS} {a1 : Int32} {I : QI} {J : QJ} {post : Int32 → Prop} (hS : Sh S) (h : wX2_kindOf a1 I post) : CX X mX2_kindOf 0 0 0 [.ref 15, .int a1] S I J (q_Pi S (fun r I2 J2 => I = I2 ∧ J = J2 ∧ post r)) := by
  refine CX.of (lo := [(0, .ref 15), (1, .int a1)]) ok_mX2_kindOf rfl (Nat.le_of_ble_eq_true rfl) rfl ?_
  replace h : ((a1 < 0 → post (-1)) ∧ (¬ a1 < 0 → (((I 15 8) ≤ a1 → post (-1)) ∧ (¬ (I 15 8) ≤ a1 → (vp_in a1 24 ∧ post (I 19 (a1).toNatClampNeg)))))) := h
  refine V_iload_n dX2_kindOf_0 rfl rfl ?_
  refine V_if_lt 21 dX2_kindOf_1 rfl (fun hc => ?_) (fun hc => ?_)
  · replace h := h.1 hc
    refine V_iconst (v := (-1)) dX2_kindOf_21 (by decide) ?_
    exact V_iret dX2_kindOf_22 rfl (by decide) (by decide) ⟨_, rfl, rfl, rfl, rfl, h⟩
  · replace h := h.2 hc
    refine V_iload_n dX2_kindOf_4 rfl rfl ?_
    refine V_aload_n dX2_kindOf_5 rfl rfl ?_
    refine V_geti dX2_kindOf_6 fl_RX2_37 (hS.n 15 rfl) (hS.k 15 2 rfl) rfl ?_
    refine V_icmp_ge 21 dX2_kindOf_9 rfl (fun hc => ?_) (fun hc => ?_)
    · replace h := h.1 hc
      refine V_iconst (v := (-1)) dX2_kindOf_21 (by decide) ?_
      exact V_iret dX2_kindOf_22 rfl (by decide) (by decide) ⟨_, rfl, rfl, rfl, rfl, h⟩
    · replace h := h.2 hc
      refine V_aload_n dX2_kindOf_12 rfl rfl ?_
      refine V_getr dX2_kindOf_13 fl_RX2_25 (hS.n 15 rfl) (hS.k 15 2 rfl) rfl (hS.r 15 4 19 rfl) ?_
      refine V_iload_n dX2_kindOf_16 rfl rfl ?_
      obtain ⟨hb, h⟩ := h
      refine V_iald dX2_kindOf_17 (hS.n 19 rfl) (hS.k 19 9 rfl) (by rw [(hS.z 19 24 rfl)]; exact hb) ?_
      refine V_goto 22 dX2_kindOf_18 rfl ?_
      exact V_iret dX2_kindOf_22 rfl (by decide) (by decide) ⟨_, rfl, rfl, rfl, rfl, h⟩
def wX2_columnOf (a1 : Int32) (I : QI) (post : Int32 → Prop) : Prop := ((a1 < 0 → post (-1)) ∧ (¬ a1 < 0 → (((I 15 8) ≤ a1 → post (-1)) ∧ (¬ (I 15 8) ≤ a1 → (vp_in a1 24 ∧ post (I 20 (a1).toNatClampNeg))))))
set_option maxRecDepth 100000 in
set_option maxHeartbeats 4000000 in
theorem s_mX2_columnOf {X : QX} {S : QS} {a1 : Int32} {I : QI} {J : QJ} {post : Int32 → Prop} (hS : Sh S) (h : wX2_columnOf a1 I post) : CX X mX2_columnOf 0 0 0 [.ref 15, .int a1] S I J (q_Pi S (fun r I2 J2 => I = I2 ∧ J = J2 ∧ post r)) := by
  refine CX.of (lo := [(0, .ref 15), (1, .int a1)]) ok_mX2_columnOf rfl (Nat.le_of_ble_eq_true rfl) rfl ?_
  replace h : ((a1 < 0 → post (-1)) ∧ (¬ a1 < 0 → (((I 15 8) ≤ a1 → post (-1)) ∧ (¬ (I 15 8) ≤ a1 → (vp_in a1 24 ∧ post (I 20 (a1).toNatClampNeg)))))) := h
  refine V_iload_n dX2_columnOf_0 rfl rfl ?_
  refine V_if_lt 21 dX2_columnOf_1 rfl (fun hc => ?_) (fun hc => ?_)
  · replace h := h.1 hc
    refine V_iconst (v := (-1)) dX2_columnOf_21 (by decide) ?_
    exact V_iret dX2_columnOf_22 rfl (by decide) (by decide) ⟨_, rfl, rfl, rfl, rfl, h⟩
  · replace h := h.2 hc
    refine V_iload_n dX2_columnOf_4 rfl rfl ?_
    refine V_aload_n dX2_columnOf_5 rfl rfl ?_
    refine V_geti dX2_columnOf_6 fl_RX2_37 (hS.n 15 rfl) (hS.k 15 2 rfl) rfl ?_
    refine V_icmp_ge 21 dX2_columnOf_9 rfl (fun hc => ?_) (fun hc => ?_)
    · replace h := h.1 hc
      refine V_iconst (v := (-1)) dX2_columnOf_21 (by decide) ?_
      exact V_iret dX2_columnOf_22 rfl (by decide) (by decide) ⟨_, rfl, rfl, rfl, rfl, h⟩
    · replace h := h.2 hc
      refine V_aload_n dX2_columnOf_12 rfl rfl ?_
      refine V_getr dX2_columnOf_13 fl_RX2_28 (hS.n 15 rfl) (hS.k 15 2 rfl) rfl (hS.r 15 5 20 rfl) ?_
      refine V_iload_n dX2_columnOf_16 rfl rfl ?_
      obtain ⟨hb, h⟩ := h
      refine V_iald dX2_columnOf_17 (hS.n 20 rfl) (hS.k 20 9 rfl) (by rw [(hS.z 20 24 rfl)]; exact hb) ?_
      refine V_goto 22 dX2_columnOf_18 rfl ?_
      exact V_iret dX2_columnOf_22 rfl (by decide) (by decide) ⟨_, rfl, rfl, rfl, rfl, h⟩
def wX2_extraOf (a1 : Int32) (I : QI) (post : Int32 → Prop) : Prop := ((a1 < 0 → post (-1)) ∧ (¬ a1 < 0 → (((I 15 8) ≤ a1 → post (-1)) ∧ (¬ (I 15 8) ≤ a1 → (vp_in a1 24 ∧ post (I 21 (a1).toNatClampNeg))))))
set_option maxRecDepth 100000 in
set_option maxHeartbeats 4000000 in
theorem s_mX2_extraOf {X : QX} {S : QS} {a1 : Int32} {I : QI} {J : QJ} {post : Int32 → Prop} (hS : Sh S) (h : wX2_extraOf a1 I post) : CX X mX2_extraOf 0 0 0 [.ref 15, .int a1] S I J (q_Pi S (fun r I2 J2 => I = I2 ∧ J = J2 ∧ post r)) := by
  refine CX.of (lo := [(0, .ref 15), (1, .int a1)]) ok_mX2_extraOf rfl (Nat.le_of_ble_eq_true rfl) rfl ?_
  replace h : ((a1 < 0 → post (-1)) ∧ (¬ a1 < 0 → (((I 15 8) ≤ a1 → post (-1)) ∧ (¬ (I 15 8) ≤ a1 → (vp_in a1 24 ∧ post (I 21 (a1).toNatClampNeg)))))) := h
  refine V_iload_n dX2_extraOf_0 rfl rfl ?_
  refine V_if_lt 21 dX2_extraOf_1 rfl (fun hc => ?_) (fun hc => ?_)
  · replace h := h.1 hc
    refine V_iconst (v := (-1)) dX2_extraOf_21 (by decide) ?_
    exact V_iret dX2_extraOf_22 rfl (by decide) (by decide) ⟨_, rfl, rfl, rfl, rfl, h⟩
  · replace h := h.2 hc
    refine V_iload_n dX2_extraOf_4 rfl rfl ?_
    refine V_aload_n dX2_extraOf_5 rfl rfl ?_
    refine V_geti dX2_extraOf_6 fl_RX2_37 (hS.n 15 rfl) (hS.k 15 2 rfl) rfl ?_
    refine V_icmp_ge 21 dX2_extraOf_9 rfl (fun hc => ?_) (fun hc => ?_)
    · replace h := h.1 hc
      refine V_iconst (v := (-1)) dX2_extraOf_21 (by decide) ?_
      exact V_iret dX2_extraOf_22 rfl (by decide) (by decide) ⟨_, rfl, rfl, rfl, rfl, h⟩
    · replace h := h.2 hc
      refine V_aload_n dX2_extraOf_12 rfl rfl ?_
      refine V_getr dX2_extraOf_13 fl_RX2_31 (hS.n 15 rfl) (hS.k 15 2 rfl) rfl (hS.r 15 6 21 rfl) ?_
      refine V_iload_n dX2_extraOf_16 rfl rfl ?_
      obtain ⟨hb, h⟩ := h
      refine V_iald dX2_extraOf_17 (hS.n 21 rfl) (hS.k 21 9 rfl) (by rw [(hS.z 21 24 rfl)]; exact hb) ?_
      refine V_goto 22 dX2_extraOf_18 rfl ?_
      exact V_iret dX2_extraOf_22 rfl (by decide) (by decide) ⟨_, rfl, rfl, rfl, rfl, h⟩
def wX4_changes (I : QI) (post : Int32 → Prop) : Prop := post (I 1 2)
set_option maxRecDepth 100000 in
set_option maxHeartbeats 4000000 in
theorem s_mX4_changes {X : QX} {S : QS} {I : QI} {J : QJ} {post : Int32 → Prop} (hS : Sh S) (h : wX4_changes I post) : CX X mX4_changes 0 0 0 [.ref 1] S I J (q_Pi S (fun r I2 J2 => I = I2 ∧ J = J2 ∧ post r)) := by
  refine CX.of (lo := [(0, .ref 1)]) ok_mX4_changes rfl (Nat.le_of_ble_eq_true rfl) rfl ?_
  replace h : post (I 1 2) := h
  refine V_aload_n dX4_changes_0 rfl rfl ?_
  refine V_geti dX4_changes_1 fl_RX4_18 (hS.n 1 rfl) (hS.k 1 4 rfl) rfl ?_
  exact V_iret dX4_changes_4 rfl (by decide) (by decide) ⟨_, rfl, rfl, rfl, rfl, h⟩
def wX2_cutTo (a1 : Int32) (I : QI) (post : QI → Prop) : Prop := ((a1 < 0 → post I) ∧ (¬ a1 < 0 → (((I 15 8) ≤ a1 → post I) ∧ (¬ (I 15 8) ≤ a1 → (∀ I1 : QI, I1 = q_u2 I 15 8 a1 → post I1)))))
set_option maxRecDepth 100000 in
set_option maxHeartbeats 4000000 in
theorem s_mX2_cutTo {X : QX} {S : QS} {a1 : Int32} {I : QI} {J : QJ} {post : QI → Prop} (hS : Sh S) (h : wX2_cutTo a1 I post) : CX X mX2_cutTo 0 0 0 [.ref 15, .int a1] S I J (q_Pv S (fun I2 J2 => J = J2 ∧ post I2)) := by
  refine CX.of (lo := [(0, .ref 15), (1, .int a1)]) ok_mX2_cutTo rfl (Nat.le_of_ble_eq_true rfl) rfl ?_
  replace h : ((a1 < 0 → post I) ∧ (¬ a1 < 0 → (((I 15 8) ≤ a1 → post I) ∧ (¬ (I 15 8) ≤ a1 → (∀ I1 : QI, I1 = q_u2 I 15 8 a1 → post I1))))) := h
  refine V_iload_n dX2_cutTo_0 rfl rfl ?_
  refine V_if_lt 17 dX2_cutTo_1 rfl (fun hc => ?_) (fun hc => ?_)
  · replace h := h.1 hc
    exact V_vret dX2_cutTo_17 rfl (by decide) (by decide) ⟨rfl, rfl, rfl, h⟩
  · replace h := h.2 hc
    refine V_iload_n dX2_cutTo_4 rfl rfl ?_
    refine V_aload_n dX2_cutTo_5 rfl rfl ?_
    refine V_geti dX2_cutTo_6 fl_RX2_37 (hS.n 15 rfl) (hS.k 15 2 rfl) rfl ?_
    refine V_icmp_ge 17 dX2_cutTo_9 rfl (fun hc => ?_) (fun hc => ?_)
    · replace h := h.1 hc
      exact V_vret dX2_cutTo_17 rfl (by decide) (by decide) ⟨rfl, rfl, rfl, h⟩
    · replace h := h.2 hc
      refine V_aload_n dX2_cutTo_12 rfl rfl ?_
      refine V_iload_n dX2_cutTo_13 rfl rfl ?_
      refine V_puti dX2_cutTo_14 fl_RX2_37 rfl (hS.n 15 rfl) (hS.k 15 2 rfl) rfl rfl rfl ?_
      refine V_memI (fun I1 e_I1 => ?_)
      replace h := h I1 e_I1
      exact V_vret dX2_cutTo_17 rfl (by decide) (by decide) ⟨rfl, rfl, rfl, h⟩
def wX2_size (I : QI) (post : Int32 → Prop) : Prop := post (I 15 8)
set_option maxRecDepth 100000 in
set_option maxHeartbeats 4000000 in
theorem s_mX2_size {X : QX} {S : QS} {I : QI} {J : QJ} {post : Int32 → Prop} (hS : Sh S) (h : wX2_size I post) : CX X mX2_size 0 0 0 [.ref 15] S I J (q_Pi S (fun r I2 J2 => I = I2 ∧ J = J2 ∧ post r)) := by
  refine CX.of (lo := [(0, .ref 15)]) ok_mX2_size rfl (Nat.le_of_ble_eq_true rfl) rfl ?_
  replace h : post (I 15 8) := h
  refine V_aload_n dX2_size_0 rfl rfl ?_
  refine V_geti dX2_size_1 fl_RX2_37 (hS.n 15 rfl) (hS.k 15 2 rfl) rfl ?_
  exact V_iret dX2_size_4 rfl (by decide) (by decide) ⟨_, rfl, rfl, rfl, rfl, h⟩
def wX1_append (a1 : Int32) (a2 : Int32) (a3 : Int32) (a4 : Int32) (I : QI) (post : Int32 → QI → Prop) : Prop := ((6 ≤ (I 37 9) → post (I 37 9) I) ∧ (¬ 6 ≤ (I 37 9) → (vp_in (I 37 9) 6 ∧ (∀ I1 : QI, I1 = q_u2 I 38 ((I 37 9)).toNatClampNeg a1 → (vp_in (I1 37 9) 6 ∧ (∀ I2 : QI, I2 = q_u2 I1 39 ((I1 37 9)).toNatClampNeg a2 → (vp_in (I2 37 9) 6 ∧ (∀ I3 : QI, I3 = q_u2 I2 40 ((I2 37 9)).toNatClampNeg a3 → (vp_in (I3 37 9) 6 ∧ (∀ I4 : QI, I4 = q_u2 I3 41 ((I3 37 9)).toNatClampNeg a4 → (∀ I5 : QI, I5 = q_u2 I4 37 9 ((I4 37 9) + 1) → post (I5 37 9) I5)))))))))))
set_option maxRecDepth 100000 in
set_option maxHeartbeats 4000000 in
theorem s_mX1_append {X : QX} {S : QS} {a1 : Int32} {a2 : Int32} {a3 : Int32} {a4 : Int32} {I : QI} {J : QJ} {post : Int32 → QI → Prop} (hS : Sh S) (h : wX1_append a1 a2 a3 a4 I post) : CX X mX1_append 0 0 0 [.ref 37, .int a1, .int a2, .int a3, .int a4] S I J (q_Pi S (fun r I2 J2 => J = J2 ∧ post r I2)) := by
  refine CX.of (lo := [(0, .ref 37), (1, .int a1), (2, .int a2), (3, .int a3), (4, .int a4)]) ok_mX1_append rfl (Nat.le_of_ble_eq_true rfl) rfl ?_
  replace h : ((6 ≤ (I 37 9) → post (I 37 9) I) ∧ (¬ 6 ≤ (I 37 9) → (vp_in (I 37 9) 6 ∧ (∀ I1 : QI, I1 = q_u2 I 38 ((I 37 9)).toNatClampNeg a1 → (vp_in (I1 37 9) 6 ∧ (∀ I2 : QI, I2 = q_u2 I1 39 ((I1 37 9)).toNatClampNeg a2 → (vp_in (I2 37 9) 6 ∧ (∀ I3 : QI, I3 = q_u2 I2 40 ((I2 37 9)).toNatClampNeg a3 → (vp_in (I3 37 9) 6 ∧ (∀ I4 : QI, I4 = q_u2 I3 41 ((I3 37 9)).toNatClampNeg a4 → (∀ I5 : QI, I5 = q_u2 I4 37 9 ((I4 37 9) + 1) → post (I5 37 9) I5))))))))))) := h
  refine V_aload_n dX1_append_0 rfl rfl ?_
  refine V_geti dX1_append_1 fl_RX1_40 (hS.n 37 rfl) (hS.k 37 1 rfl) rfl ?_
  refine V_bipush (v := 6) dX1_append_4 (by decide) ?_
  refine V_icmp_ge 60 dX1_append_6 rfl (fun hc => ?_) (fun hc => ?_)
  · replace h := h.1 hc
    refine V_aload_n dX1_append_60 rfl rfl ?_
    refine V_geti dX1_append_61 fl_RX1_40 (hS.n 37 rfl) (hS.k 37 1 rfl) rfl ?_
    exact V_iret dX1_append_64 rfl (by decide) (by decide) ⟨_, rfl, rfl, rfl, h⟩
  · replace h := h.2 hc
    refine V_aload_n dX1_append_9 rfl rfl ?_
    refine V_getr dX1_append_10 fl_RX1_15 (hS.n 37 rfl) (hS.k 37 1 rfl) rfl (hS.r 37 1 38 rfl) ?_
    refine V_aload_n dX1_append_13 rfl rfl ?_
    refine V_geti dX1_append_14 fl_RX1_40 (hS.n 37 rfl) (hS.k 37 1 rfl) rfl ?_
    refine V_iload_n dX1_append_17 rfl rfl ?_
    obtain ⟨hb, h⟩ := h
    refine V_iast dX1_append_18 (hS.n 38 rfl) (hS.k 38 9 rfl) (by rw [(hS.z 38 6 rfl)]; exact hb) ?_
    refine V_memI (fun I1 e_I1 => ?_)
    replace h := h I1 e_I1
    refine V_aload_n dX1_append_19 rfl rfl ?_
    refine V_getr dX1_append_20 fl_RX1_19 (hS.n 37 rfl) (hS.k 37 1 rfl) rfl (hS.r 37 2 39 rfl) ?_
    refine V_aload_n dX1_append_23 rfl rfl ?_
    refine V_geti dX1_append_24 fl_RX1_40 (hS.n 37 rfl) (hS.k 37 1 rfl) rfl ?_
    refine V_iload_n dX1_append_27 rfl rfl ?_
    obtain ⟨hb, h⟩ := h
    refine V_iast dX1_append_28 (hS.n 39 rfl) (hS.k 39 9 rfl) (by rw [(hS.z 39 6 rfl)]; exact hb) ?_
    refine V_memI (fun I2 e_I2 => ?_)
    replace h := h I2 e_I2
    refine V_aload_n dX1_append_29 rfl rfl ?_
    refine V_getr dX1_append_30 fl_RX1_22 (hS.n 37 rfl) (hS.k 37 1 rfl) rfl (hS.r 37 3 40 rfl) ?_
    refine V_aload_n dX1_append_33 rfl rfl ?_
    refine V_geti dX1_append_34 fl_RX1_40 (hS.n 37 rfl) (hS.k 37 1 rfl) rfl ?_
    refine V_iload_n dX1_append_37 rfl rfl ?_
    obtain ⟨hb, h⟩ := h
    refine V_iast dX1_append_38 (hS.n 40 rfl) (hS.k 40 9 rfl) (by rw [(hS.z 40 6 rfl)]; exact hb) ?_
    refine V_memI (fun I3 e_I3 => ?_)
    replace h := h I3 e_I3
    refine V_aload_n dX1_append_39 rfl rfl ?_
    refine V_getr dX1_append_40 fl_RX1_25 (hS.n 37 rfl) (hS.k 37 1 rfl) rfl (hS.r 37 4 41 rfl) ?_
    refine V_aload_n dX1_append_43 rfl rfl ?_
    refine V_geti dX1_append_44 fl_RX1_40 (hS.n 37 rfl) (hS.k 37 1 rfl) rfl ?_
    refine V_iload dX1_append_47 rfl ?_
    obtain ⟨hb, h⟩ := h
    refine V_iast dX1_append_49 (hS.n 41 rfl) (hS.k 41 9 rfl) (by rw [(hS.z 41 6 rfl)]; exact hb) ?_
    refine V_memI (fun I4 e_I4 => ?_)
    replace h := h I4 e_I4
    refine V_aload_n dX1_append_50 rfl rfl ?_
    refine V_dup dX1_append_51 rfl ?_
    refine V_geti dX1_append_52 fl_RX1_40 (hS.n 37 rfl) (hS.k 37 1 rfl) rfl ?_
    refine V_iconst (v := 1) dX1_append_55 (by decide) ?_
    refine V_iadd dX1_append_56 ?_
    refine V_puti dX1_append_57 fl_RX1_40 rfl (hS.n 37 rfl) (hS.k 37 1 rfl) rfl rfl rfl ?_
    refine V_memI (fun I5 e_I5 => ?_)
    replace h := h I5 e_I5
    refine V_aload_n dX1_append_60 rfl rfl ?_
    refine V_geti dX1_append_61 fl_RX1_40 (hS.n 37 rfl) (hS.k 37 1 rfl) rfl ?_
    exact V_iret dX1_append_64 rfl (by decide) (by decide) ⟨_, rfl, rfl, rfl, h⟩
def wX1_isFull (I : QI) (post : Int32 → Prop) : Prop := (((I 37 9) < 6 → post 0) ∧ (¬ (I 37 9) < 6 → post 1))
set_option maxRecDepth 100000 in
set_option maxHeartbeats 4000000 in
theorem s_mX1_isFull {X : QX} {S : QS} {I : QI} {J : QJ} {post : Int32 → Prop} (hS : Sh S) (h : wX1_isFull I post) : CX X mX1_isFull 0 0 0 [.ref 37] S I J (q_Pi S (fun r I2 J2 => I = I2 ∧ J = J2 ∧ post r)) := by
  refine CX.of (lo := [(0, .ref 37)]) ok_mX1_isFull rfl (Nat.le_of_ble_eq_true rfl) rfl ?_
  replace h : (((I 37 9) < 6 → post 0) ∧ (¬ (I 37 9) < 6 → post 1)) := h
  refine V_aload_n dX1_isFull_0 rfl rfl ?_
  refine V_geti dX1_isFull_1 fl_RX1_40 (hS.n 37 rfl) (hS.k 37 1 rfl) rfl ?_
  refine V_bipush (v := 6) dX1_isFull_4 (by decide) ?_
  refine V_icmp_lt 13 dX1_isFull_6 rfl (fun hc => ?_) (fun hc => ?_)
  · replace h := h.1 hc
    refine V_iconst (v := 0) dX1_isFull_13 (by decide) ?_
    exact V_zret dX1_isFull_14 rfl (by decide) (by decide) (by decide) ⟨_, rfl, rfl, rfl, rfl, h⟩
  · replace h := h.2 hc
    refine V_iconst (v := 1) dX1_isFull_9 (by decide) ?_
    refine V_goto 14 dX1_isFull_10 rfl ?_
    exact V_zret dX1_isFull_14 rfl (by decide) (by decide) (by decide) ⟨_, rfl, rfl, rfl, rfl, h⟩
def wX4_hasColumn (a1 : Int32) (a2 : Int32) (I : QI) (post : Int32 → Prop) : Prop := (wX4_find a1 I (fun r1 => (r1 = none → post 0) ∧ (∀ t2 : Nat, t2 < 4 → r1 = some t2 → (wX5_hasColumn t2 a2 I (fun r3 => ((r3 = 0 → post 0) ∧ (¬ r3 = 0 → post 1)))))))
set_option maxRecDepth 100000 in
set_option maxHeartbeats 4000000 in
theorem s_mX4_hasColumn {X : QX} {S : QS} {a1 : Int32} {a2 : Int32} {I : QI} {J : QJ} {post : Int32 → Prop} (hS : Sh S) (h : wX4_hasColumn a1 a2 I post) : CX X mX4_hasColumn 1 0 0 [.ref 1, .int a1, .int a2] S I J (q_Pi S (fun r I2 J2 => I = I2 ∧ J = J2 ∧ post r)) := by
  refine CX.of (lo := [(0, .ref 1), (1, .int a1), (2, .int a2)]) ok_mX4_hasColumn rfl (Nat.le_of_ble_eq_true rfl) rfl ?_
  replace h : (wX4_find a1 I (fun r1 => (r1 = none → post 0) ∧ (∀ t2 : Nat, t2 < 4 → r1 = some t2 → (wX5_hasColumn t2 a2 I (fun r3 => ((r3 = 0 → post 0) ∧ (¬ r3 = 0 → post 1))))))) := h
  refine V_aload_n dX4_hasColumn_0 rfl rfl ?_
  refine V_iload_n dX4_hasColumn_1 rfl rfl ?_
  refine V_callVt (st := []) [.int a1] dX4_hasColumn_2 ok_mX4_find rfl ml_RX4_29 in_mX4_find se_mX4_find (hS.n 1 rfl) (hS.k 1 4 rfl) (by decide) rfl (Nat.le_of_ble_eq_true rfl) (by decide) (by decide) (by decide) (s_mX4_find hS h) (fun I9 J9 h => ?_) (fun t2 I9 J9 ht2 h => ?_)
  · obtain ⟨rfl, rfl, h⟩ := h
    replace h := h.1 rfl
    refine V_astore_nN (lo2 := [(3, .null), (0, .ref 1), (1, .int a1), (2, .int a2)]) dX4_hasColumn_5 rfl (by decide) rfl ?_
    refine V_aload_nN dX4_hasColumn_6 rfl rfl ?_
    refine V_ifnullN 22 dX4_hasColumn_7 rfl ?_
    refine V_iconst (v := 0) dX4_hasColumn_22 (by decide) ?_
    exact V_zret dX4_hasColumn_23 rfl (by decide) (by decide) (by decide) ⟨_, rfl, rfl, rfl, rfl, h⟩
  · obtain ⟨rfl, rfl, h⟩ := h
    replace h := h.2 t2 ht2 rfl
    refine V_astore_n (lo2 := [(3, .ref (3 + 3 * t2)), (0, .ref 1), (1, .int a1), (2, .int a2)]) dX4_hasColumn_5 rfl (by decide) rfl ?_
    refine V_aload_n dX4_hasColumn_6 rfl rfl ?_
    refine V_ifnull dX4_hasColumn_7 ?_
    refine V_aload_n dX4_hasColumn_10 rfl rfl ?_
    refine V_iload_n dX4_hasColumn_11 rfl rfl ?_
    refine V_callVi (st := []) [.int a2] dX4_hasColumn_12 ok_mX5_hasColumn rfl ml_RX4_33 in_mX5_hasColumn se_mX5_hasColumn (hS.tn ht2 3 rfl) (hS.tk ht2) (by decide) rfl (Nat.le_of_ble_eq_true rfl) (by decide) (by decide) (by decide) (s_mX5_hasColumn hS ht2 h) (fun r3 I9 J9 h => ?_)
    obtain ⟨rfl, rfl, h⟩ := h
    refine V_if_eq 22 dX4_hasColumn_15 rfl (fun hc => ?_) (fun hc => ?_)
    · replace h := h.1 hc
      refine V_iconst (v := 0) dX4_hasColumn_22 (by decide) ?_
      exact V_zret dX4_hasColumn_23 rfl (by decide) (by decide) (by decide) ⟨_, rfl, rfl, rfl, rfl, h⟩
    · replace h := h.2 hc
      refine V_iconst (v := 1) dX4_hasColumn_18 (by decide) ?_
      refine V_goto 23 dX4_hasColumn_19 rfl ?_
      exact V_zret dX4_hasColumn_23 rfl (by decide) (by decide) (by decide) ⟨_, rfl, rfl, rfl, rfl, h⟩
def wX1_has (a0 : Int32) (a1 : Int32) (I : QI) (post : Int32 → Prop) : Prop := ((¬ ((a0 >>> (a1 &&& 31)) &&& 1) = 1 → post 0) ∧ (((a0 >>> (a1 &&& 31)) &&& 1) = 1 → post 1))
set_option maxRecDepth 100000 in
set_option maxHeartbeats 4000000 in
theorem s_mX1_has {X : QX} {S : QS} {a0 : Int32} {a1 : Int32} {I : QI} {J : QJ} {post : Int32 → Prop} (hS : Sh S) (h : wX1_has a0 a1 I post) : CX X mX1_has 0 0 0 [.int a0, .int a1] S I J (q_Pi S (fun r I2 J2 => I = I2 ∧ J = J2 ∧ post r)) := by
  refine CX.of (lo := [(0, .int a0), (1, .int a1)]) ok_mX1_has rfl (Nat.le_of_ble_eq_true rfl) rfl ?_
  replace h : ((¬ ((a0 >>> (a1 &&& 31)) &&& 1) = 1 → post 0) ∧ (((a0 >>> (a1 &&& 31)) &&& 1) = 1 → post 1)) := h
  refine V_iload_n dX1_has_0 rfl rfl ?_
  refine V_iload_n dX1_has_1 rfl rfl ?_
  refine V_ishr dX1_has_2 ?_
  refine V_iconst (v := 1) dX1_has_3 (by decide) ?_
  refine V_iand dX1_has_4 ?_
  refine V_iconst (v := 1) dX1_has_5 (by decide) ?_
  refine V_icmp_ne 13 dX1_has_6 rfl (fun hc => ?_) (fun hc => ?_)
  · replace h := h.1 hc
    refine V_iconst (v := 0) dX1_has_13 (by decide) ?_
    exact V_zret dX1_has_14 rfl (by decide) (by decide) (by decide) ⟨_, rfl, rfl, rfl, rfl, h⟩
  · replace h := h.2 hc
    refine V_iconst (v := 1) dX1_has_9 (by decide) ?_
    refine V_goto 14 dX1_has_10 rfl ?_
    exact V_zret dX1_has_14 rfl (by decide) (by decide) (by decide) ⟨_, rfl, rfl, rfl, rfl, h⟩
def wX1_guess_4 (a1 : Int32) (I : QI) (K32 : Int32 → Prop) (post : Int32 → Prop) : Nat → Int32 → Int32 → Prop
  | 0, _, _ => False
  | n + 1, x2, x3 => ((4 ≤ x3 → (K32 x2)) ∧ (¬ 4 ≤ x3 → (wX1_has a1 x3 I (fun r1 => ((r1 = 0 → (∀ v2 : Int32, v2 = (x3 + 1) → (wX1_guess_4 a1 I K32 post n x2 v2))) ∧ (¬ r1 = 0 → (vp_in x3 4 ∧ (∀ v3 : Int32, v3 = (x2 * (I 42 (x3).toNatClampNeg)) → (∀ v4 : Int32, v4 = (x3 + 1) → (wX1_guess_4 a1 I K32 post n v3 v4))))))))))
set_option maxRecDepth 100000 in
set_option maxHeartbeats 4000000 in
theorem swX1_guess_4 {X : QX} {S : QS} {a1 : Int32} {I : QI} {J : QJ} {K32 : Int32 → Prop} {post : Int32 → Prop} (hS : Sh S) (hK32 : ∀ (z2 : Int32), K32 z2 → V X mX1_guess 1 0 0 (q_Pi S (fun r I2 J2 => I = I2 ∧ J = J2 ∧ post r)) 32 [(0, .ref 37), (1, .int a1), (2, .int z2)] [] S I J 0 0) : ∀ (f : Nat) (x2 : Int32) (x3 : Int32), wX1_guess_4 a1 I K32 post f x2 x3 → V X mX1_guess 1 0 0 (q_Pi S (fun r I2 J2 => I = I2 ∧ J = J2 ∧ post r)) 4 [(0, .ref 37), (1, .int a1), (2, .int x2), (3, .int x3)] [] S I J 0 0 := by
  intro f
  induction f with
  | zero => intro x2 x3 h; exact h.elim
  | succ n ih =>
    intro x2 x3 h
    replace h : ((4 ≤ x3 → (K32 x2)) ∧ (¬ 4 ≤ x3 → (wX1_has a1 x3 I (fun r1 => ((r1 = 0 → (∀ v2 : Int32, v2 = (x3 + 1) → (wX1_guess_4 a1 I K32 post n x2 v2))) ∧ (¬ r1 = 0 → (vp_in x3 4 ∧ (∀ v3 : Int32, v3 = (x2 * (I 42 (x3).toNatClampNeg)) → (∀ v4 : Int32, v4 = (x3 + 1) → (wX1_guess_4 a1 I K32 post n v3 v4)))))))))) := h
    refine V_iload_n dX1_guess_4 rfl rfl ?_
    refine V_iconst (v := 4) dX1_guess_5 (by decide) ?_
    refine V_icmp_ge 32 dX1_guess_6 rfl (fun hc => ?_) (fun hc => ?_)
    · replace h := h.1 hc
      refine V_sub (lo2 := [(0, .ref 37), (1, .int a1), (2, .int x2)]) [0, 1, 2] rfl ?_
      exact hK32 _ h
    · replace h := h.2 hc
      refine V_iload_n dX1_guess_9 rfl rfl ?_
      refine V_iload_n dX1_guess_10 rfl rfl ?_
      refine V_callSi (st := []) [.int a1, .int x3] dX1_guess_11 ok_mX1_has rfl ml_RX1_72 st_mX1_has (Nat.le_of_ble_eq_true rfl) (by decide) (by decide) (by decide) (s_mX1_has hS h) (fun r1 I9 J9 h => ?_)
      obtain ⟨rfl, rfl, h⟩ := h
      refine V_if_eq 26 dX1_guess_14 rfl (fun hc => ?_) (fun hc => ?_)
      · replace h := h.1 hc
        obtain ⟨v2, e_v2⟩ : ∃ z : Int32, z = (x3 + 1) := ⟨_, rfl⟩
        replace h := h v2 e_v2
        refine V_iinc (lo2 := [(3, .int v2), (0, .ref 37), (1, .int a1), (2, .int x2)]) 3 dX1_guess_26 rfl (v := v2) (by rw [e_v2]; first | done | rfl) (by decide) rfl ?_
        refine V_goto 4 dX1_guess_29 rfl ?_
        refine V_sub (lo2 := [(0, .ref 37), (1, .int a1), (2, .int x2), (3, .int v2)]) [1, 2, 3, 0] rfl ?_
        exact ih _ _ h
      · replace h := h.2 hc
        refine V_iload_n dX1_guess_17 rfl rfl ?_
        refine V_aload_n dX1_guess_18 rfl rfl ?_
        refine V_getr dX1_guess_19 fl_RX1_28 (hS.n 37 rfl) (hS.k 37 1 rfl) rfl (hS.r 37 5 42 rfl) ?_
        refine V_iload_n dX1_guess_22 rfl rfl ?_
        obtain ⟨hb, h⟩ := h
        refine V_iald dX1_guess_23 (hS.n 42 rfl) (hS.k 42 9 rfl) (by rw [(hS.z 42 4 rfl)]; exact hb) ?_
        refine V_imul dX1_guess_24 ?_
        refine V_topi (fun v3 e_v3 => ?_)
        replace h := h v3 e_v3
        refine V_istore_n (lo2 := [(2, .int v3), (0, .ref 37), (1, .int a1), (3, .int x3)]) dX1_guess_25 rfl (by decide) rfl ?_
        obtain ⟨v4, e_v4⟩ : ∃ z : Int32, z = (x3 + 1) := ⟨_, rfl⟩
        replace h := h v4 e_v4
        refine V_iinc (lo2 := [(3, .int v4), (2, .int v3), (0, .ref 37), (1, .int a1)]) 3 dX1_guess_26 rfl (v := v4) (by rw [e_v4]; first | done | rfl) (by decide) rfl ?_
        refine V_goto 4 dX1_guess_29 rfl ?_
        refine V_sub (lo2 := [(0, .ref 37), (1, .int a1), (2, .int v3), (3, .int v4)]) [2, 3, 1, 0] rfl ?_
        exact ih _ _ h
def wX1_guess_34 (a1 : Int32) (I : QI) (K98 : Int32 → Prop) (post : Int32 → Prop) : Nat → Int32 → Int32 → Prop
  | 0, _, _ => False
  | n + 1, x2, x3 => (((I 37 9) ≤ x3 → (K98 x2)) ∧ (¬ (I 37 9) ≤ x3 → ((6 ≤ x3 → (K98 x2)) ∧ (¬ 6 ≤ x3 → (vp_in x3 6 ∧ (wX1_has a1 (I 38 (x3).toNatClampNeg) I (fun r6 => ((r6 = 0 → (∀ v7 : Int32, v7 = (x3 + 1) → (wX1_guess_34 a1 I K98 post n x2 v7))) ∧ (¬ r6 = 0 → (vp_in x3 6 ∧ (wX1_has a1 (I 40 (x3).toNatClampNeg) I (fun r8 => ((r8 = 0 → (∀ v9 : Int32, v9 = (x3 + 1) → (wX1_guess_34 a1 I K98 post n x2 v9))) ∧ (¬ r8 = 0 → (vp_in x3 6 ∧ (((I 43 (x3).toNatClampNeg) ≤ 0 → (∀ v10 : Int32, v10 = (x3 + 1) → (wX1_guess_34 a1 I K98 post n x2 v10))) ∧ (¬ (I 43 (x3).toNatClampNeg) ≤ 0 → (vp_in x3 6 ∧ (¬ (I 43 (x3).toNatClampNeg) = 0 ∧ (∀ v11 : Int32, v11 = (x2 / (I 43 (x3).toNatClampNeg)) → (∀ v12 : Int32, v12 = (x3 + 1) → (wX1_guess_34 a1 I K98 post n v11 v12))))))))))))))))))))))
set_option maxRecDepth 100000 in
set_option maxHeartbeats 4000000 in
theorem swX1_guess_34 {X : QX} {S : QS} {a1 : Int32} {I : QI} {J : QJ} {K98 : Int32 → Prop} {post : Int32 → Prop} (hS : Sh S) (hK98 : ∀ (z2 : Int32), K98 z2 → V X mX1_guess 1 0 0 (q_Pi S (fun r I2 J2 => I = I2 ∧ J = J2 ∧ post r)) 98 [(2, .int z2)] [] S I J 0 0) : ∀ (f : Nat) (x2 : Int32) (x3 : Int32), wX1_guess_34 a1 I K98 post f x2 x3 → V X mX1_guess 1 0 0 (q_Pi S (fun r I2 J2 => I = I2 ∧ J = J2 ∧ post r)) 34 [(0, .ref 37), (1, .int a1), (2, .int x2), (3, .int x3)] [] S I J 0 0 := by
  intro f
  induction f with
  | zero => intro x2 x3 h; exact h.elim
  | succ n ih =>
    intro x2 x3 h
    replace h : (((I 37 9) ≤ x3 → (K98 x2)) ∧ (¬ (I 37 9) ≤ x3 → ((6 ≤ x3 → (K98 x2)) ∧ (¬ 6 ≤ x3 → (vp_in x3 6 ∧ (wX1_has a1 (I 38 (x3).toNatClampNeg) I (fun r6 => ((r6 = 0 → (∀ v7 : Int32, v7 = (x3 + 1) → (wX1_guess_34 a1 I K98 post n x2 v7))) ∧ (¬ r6 = 0 → (vp_in x3 6 ∧ (wX1_has a1 (I 40 (x3).toNatClampNeg) I (fun r8 => ((r8 = 0 → (∀ v9 : Int32, v9 = (x3 + 1) → (wX1_guess_34 a1 I K98 post n x2 v9))) ∧ (¬ r8 = 0 → (vp_in x3 6 ∧ (((I 43 (x3).toNatClampNeg) ≤ 0 → (∀ v10 : Int32, v10 = (x3 + 1) → (wX1_guess_34 a1 I K98 post n x2 v10))) ∧ (¬ (I 43 (x3).toNatClampNeg) ≤ 0 → (vp_in x3 6 ∧ (¬ (I 43 (x3).toNatClampNeg) = 0 ∧ (∀ v11 : Int32, v11 = (x2 / (I 43 (x3).toNatClampNeg)) → (∀ v12 : Int32, v12 = (x3 + 1) → (wX1_guess_34 a1 I K98 post n v11 v12)))))))))))))))))))))) := h
    refine V_iload_n dX1_guess_34 rfl rfl ?_
    refine V_aload_n dX1_guess_35 rfl rfl ?_
    refine V_geti dX1_guess_36 fl_RX1_40 (hS.n 37 rfl) (hS.k 37 1 rfl) rfl ?_
    refine V_icmp_ge 98 dX1_guess_39 rfl (fun hc => ?_) (fun hc => ?_)
    · replace h := h.1 hc
      refine V_sub (lo2 := [(2, .int x2)]) [2] rfl ?_
      exact hK98 _ h
    · replace h := h.2 hc
      refine V_iload_n dX1_guess_42 rfl rfl ?_
      refine V_bipush (v := 6) dX1_guess_43 (by decide) ?_
      refine V_icmp_ge 98 dX1_guess_45 rfl (fun hc => ?_) (fun hc => ?_)
      · replace h := h.1 hc
        refine V_sub (lo2 := [(2, .int x2)]) [2] rfl ?_
        exact hK98 _ h
      · replace h := h.2 hc
        refine V_iload_n dX1_guess_48 rfl rfl ?_
        refine V_aload_n dX1_guess_49 rfl rfl ?_
        refine V_getr dX1_guess_50 fl_RX1_15 (hS.n 37 rfl) (hS.k 37 1 rfl) rfl (hS.r 37 1 38 rfl) ?_
        refine V_iload_n dX1_guess_53 rfl rfl ?_
        obtain ⟨hb, h⟩ := h
        refine V_iald dX1_guess_54 (hS.n 38 rfl) (hS.k 38 9 rfl) (by rw [(hS.z 38 6 rfl)]; exact hb) ?_
        refine V_callSi (st := []) [.int a1, .int (I 38 (x3).toNatClampNeg)] dX1_guess_55 ok_mX1_has rfl ml_RX1_72 st_mX1_has (Nat.le_of_ble_eq_true rfl) (by decide) (by decide) (by decide) (s_mX1_has hS h) (fun r6 I9 J9 h => ?_)
        obtain ⟨rfl, rfl, h⟩ := h
        refine V_if_eq 92 dX1_guess_58 rfl (fun hc => ?_) (fun hc => ?_)
        · replace h := h.1 hc
          obtain ⟨v7, e_v7⟩ : ∃ z : Int32, z = (x3 + 1) := ⟨_, rfl⟩
          replace h := h v7 e_v7
          refine V_iinc (lo2 := [(3, .int v7), (0, .ref 37), (1, .int a1), (2, .int x2)]) 3 dX1_guess_92 rfl (v := v7) (by rw [e_v7]; first | done | rfl) (by decide) rfl ?_
          refine V_goto 34 dX1_guess_95 rfl ?_
          refine V_sub (lo2 := [(0, .ref 37), (1, .int a1), (2, .int x2), (3, .int v7)]) [1, 2, 3, 0] rfl ?_
          exact ih _ _ h
        · replace h := h.2 hc
          refine V_iload_n dX1_guess_61 rfl rfl ?_
          refine V_aload_n dX1_guess_62 rfl rfl ?_
          refine V_getr dX1_guess_63 fl_RX1_22 (hS.n 37 rfl) (hS.k 37 1 rfl) rfl (hS.r 37 3 40 rfl) ?_
          refine V_iload_n dX1_guess_66 rfl rfl ?_
          obtain ⟨hb, h⟩ := h
          refine V_iald dX1_guess_67 (hS.n 40 rfl) (hS.k 40 9 rfl) (by rw [(hS.z 40 6 rfl)]; exact hb) ?_
          refine V_callSi (st := []) [.int a1, .int (I 40 (x3).toNatClampNeg)] dX1_guess_68 ok_mX1_has rfl ml_RX1_72 st_mX1_has (Nat.le_of_ble_eq_true rfl) (by decide) (by decide) (by decide) (s_mX1_has hS h) (fun r8 I9 J9 h => ?_)
          obtain ⟨rfl, rfl, h⟩ := h
          refine V_if_eq 92 dX1_guess_71 rfl (fun hc => ?_) (fun hc => ?_)
          · replace h := h.1 hc
            obtain ⟨v9, e_v9⟩ : ∃ z : Int32, z = (x3 + 1) := ⟨_, rfl⟩
            replace h := h v9 e_v9
            refine V_iinc (lo2 := [(3, .int v9), (0, .ref 37), (1, .int a1), (2, .int x2)]) 3 dX1_guess_92 rfl (v := v9) (by rw [e_v9]; first | done | rfl) (by decide) rfl ?_
            refine V_goto 34 dX1_guess_95 rfl ?_
            refine V_sub (lo2 := [(0, .ref 37), (1, .int a1), (2, .int x2), (3, .int v9)]) [1, 2, 3, 0] rfl ?_
            exact ih _ _ h
          · replace h := h.2 hc
            refine V_aload_n dX1_guess_74 rfl rfl ?_
            refine V_getr dX1_guess_75 fl_RX1_31 (hS.n 37 rfl) (hS.k 37 1 rfl) rfl (hS.r 37 6 43 rfl) ?_
            refine V_iload_n dX1_guess_78 rfl rfl ?_
            obtain ⟨hb, h⟩ := h
            refine V_iald dX1_guess_79 (hS.n 43 rfl) (hS.k 43 9 rfl) (by rw [(hS.z 43 6 rfl)]; exact hb) ?_
            refine V_if_le 92 dX1_guess_80 rfl (fun hc => ?_) (fun hc => ?_)
            · replace h := h.1 hc
              obtain ⟨v10, e_v10⟩ : ∃ z : Int32, z = (x3 + 1) := ⟨_, rfl⟩
              replace h := h v10 e_v10
              refine V_iinc (lo2 := [(3, .int v10), (0, .ref 37), (1, .int a1), (2, .int x2)]) 3 dX1_guess_92 rfl (v := v10) (by rw [e_v10]; first | done | rfl) (by decide) rfl ?_
              refine V_goto 34 dX1_guess_95 rfl ?_
              refine V_sub (lo2 := [(0, .ref 37), (1, .int a1), (2, .int x2), (3, .int v10)]) [1, 2, 3, 0] rfl ?_
              exact ih _ _ h
            · replace h := h.2 hc
              refine V_iload_n dX1_guess_83 rfl rfl ?_
              refine V_aload_n dX1_guess_84 rfl rfl ?_
              refine V_getr dX1_guess_85 fl_RX1_31 (hS.n 37 rfl) (hS.k 37 1 rfl) rfl (hS.r 37 6 43 rfl) ?_
              refine V_iload_n dX1_guess_88 rfl rfl ?_
              obtain ⟨hb, h⟩ := h
              refine V_iald dX1_guess_89 (hS.n 43 rfl) (hS.k 43 9 rfl) (by rw [(hS.z 43 6 rfl)]; exact hb) ?_
              obtain ⟨hb, h⟩ := h
              refine V_idiv dX1_guess_90 hb ?_
              refine V_topi (fun v11 e_v11 => ?_)
              replace h := h v11 e_v11
              refine V_istore_n (lo2 := [(2, .int v11), (0, .ref 37), (1, .int a1), (3, .int x3)]) dX1_guess_91 rfl (by decide) rfl ?_
              obtain ⟨v12, e_v12⟩ : ∃ z : Int32, z = (x3 + 1) := ⟨_, rfl⟩
              replace h := h v12 e_v12
              refine V_iinc (lo2 := [(3, .int v12), (2, .int v11), (0, .ref 37), (1, .int a1)]) 3 dX1_guess_92 rfl (v := v12) (by rw [e_v12]; first | done | rfl) (by decide) rfl ?_
              refine V_goto 34 dX1_guess_95 rfl ?_
              refine V_sub (lo2 := [(0, .ref 37), (1, .int a1), (2, .int v11), (3, .int v12)]) [2, 3, 1, 0] rfl ?_
              exact ih _ _ h
def wX1_guess (a1 : Int32) (I : QI) (post : Int32 → Prop) : Prop := (∃ f : Nat, wX1_guess_4 a1 I (fun u5 => (∃ f : Nat, wX1_guess_34 a1 I (fun u13 => post (if 1 < u13 then u13 else 1)) post f u5 0)) post f 1 0)
set_option maxRecDepth 100000 in
set_option maxHeartbeats 4000000 in
theorem s_mX1_guess {X : QX} {S : QS} {a1 : Int32} {I : QI} {J : QJ} {post : Int32 → Prop} (hS : Sh S) (h : wX1_guess a1 I post) : CX X mX1_guess 1 0 0 [.ref 37, .int a1] S I J (q_Pi S (fun r I2 J2 => I = I2 ∧ J = J2 ∧ post r)) := by
  refine CX.of (lo := [(0, .ref 37), (1, .int a1)]) ok_mX1_guess rfl (Nat.le_of_ble_eq_true rfl) rfl ?_
  replace h : (∃ f : Nat, wX1_guess_4 a1 I (fun u5 => (∃ f : Nat, wX1_guess_34 a1 I (fun u13 => post (if 1 < u13 then u13 else 1)) post f u5 0)) post f 1 0) := h
  refine V_iconst (v := 1) dX1_guess_0 (by decide) ?_
  refine V_istore_n (lo2 := [(2, .int 1), (0, .ref 37), (1, .int a1)]) dX1_guess_1 rfl (by decide) rfl ?_
  refine V_iconst (v := 0) dX1_guess_2 (by decide) ?_
  refine V_istore_n (lo2 := [(3, .int 0), (2, .int 1), (0, .ref 37), (1, .int a1)]) dX1_guess_3 rfl (by decide) rfl ?_
  refine V_sub (lo2 := [(0, .ref 37), (1, .int a1), (2, .int 1), (3, .int 0)]) [2, 3, 1, 0] rfl ?_
  obtain ⟨f9, h⟩ := h
  refine swX1_guess_4 hS ?_ f9 _ _ h
  · intro u5 h
    refine V_iconst (v := 0) dX1_guess_32 (by decide) ?_
    refine V_istore_n (lo2 := [(3, .int 0), (0, .ref 37), (1, .int a1), (2, .int u5)]) dX1_guess_33 rfl (by decide) rfl ?_
    refine V_sub (lo2 := [(0, .ref 37), (1, .int a1), (2, .int u5), (3, .int 0)]) [1, 2, 3, 0] rfl ?_
    obtain ⟨f9, h⟩ := h
    refine swX1_guess_34 hS ?_ f9 _ _ h
    · intro u13 h
      refine V_iconst (v := 1) dX1_guess_98 (by decide) ?_
      refine V_iload_n dX1_guess_99 rfl rfl ?_
      refine V_max dX1_guess_100 ml_RX1_63 mm_max.1 mm_max.2.1 mm_max.2.2 (Nat.le_of_ble_eq_true rfl) (by decide) (by decide) ?_
      exact V_iret dX1_guess_103 rfl (by decide) (by decide) ⟨_, rfl, rfl, rfl, rfl, h⟩
def wX4_countKnownValues (a1 : Int32) (a2 : Int32) (I : QI) (post : Int32 → Prop) : Prop := (wX4_find a1 I (fun r1 => (r1 = none → post 0) ∧ (∀ t2 : Nat, t2 < 4 → r1 = some t2 → (wX5_countKnownValues t2 a2 I (fun r3 => post r3)))))
set_option maxRecDepth 100000 in
set_option maxHeartbeats 4000000 in
theorem s_mX4_countKnownValues {X : QX} {S : QS} {a1 : Int32} {a2 : Int32} {I : QI} {J : QJ} {post : Int32 → Prop} (hS : Sh S) (h : wX4_countKnownValues a1 a2 I post) : CX X mX4_countKnownValues 3 0 0 [.ref 1, .int a1, .int a2] S I J (q_Pi S (fun r I2 J2 => I = I2 ∧ J = J2 ∧ post r)) := by
  refine CX.of (lo := [(0, .ref 1), (1, .int a1), (2, .int a2)]) ok_mX4_countKnownValues rfl (Nat.le_of_ble_eq_true rfl) rfl ?_
  replace h : (wX4_find a1 I (fun r1 => (r1 = none → post 0) ∧ (∀ t2 : Nat, t2 < 4 → r1 = some t2 → (wX5_countKnownValues t2 a2 I (fun r3 => post r3))))) := h
  refine V_aload_n dX4_countKnownValues_0 rfl rfl ?_
  refine V_iload_n dX4_countKnownValues_1 rfl rfl ?_
  refine V_callVt (st := []) [.int a1] dX4_countKnownValues_2 ok_mX4_find rfl ml_RX4_29 in_mX4_find se_mX4_find (hS.n 1 rfl) (hS.k 1 4 rfl) (by decide) rfl (Nat.le_of_ble_eq_true rfl) (by decide) (by decide) (by decide) (s_mX4_find hS h) (fun I9 J9 h => ?_) (fun t2 I9 J9 ht2 h => ?_)
  · obtain ⟨rfl, rfl, h⟩ := h
    replace h := h.1 rfl
    refine V_astore_nN (lo2 := [(3, .null), (0, .ref 1), (1, .int a1), (2, .int a2)]) dX4_countKnownValues_5 rfl (by decide) rfl ?_
    refine V_aload_nN dX4_countKnownValues_6 rfl rfl ?_
    refine V_ifnonnullN dX4_countKnownValues_7 ?_
    refine V_iconst (v := 0) dX4_countKnownValues_10 (by decide) ?_
    refine V_goto 19 dX4_countKnownValues_11 rfl ?_
    exact V_iret dX4_countKnownValues_19 rfl (by decide) (by decide) ⟨_, rfl, rfl, rfl, rfl, h⟩
  · obtain ⟨rfl, rfl, h⟩ := h
    replace h := h.2 t2 ht2 rfl
    refine V_astore_n (lo2 := [(3, .ref (3 + 3 * t2)), (0, .ref 1), (1, .int a1), (2, .int a2)]) dX4_countKnownValues_5 rfl (by decide) rfl ?_
    refine V_aload_n dX4_countKnownValues_6 rfl rfl ?_
    refine V_ifnonnull 14 dX4_countKnownValues_7 rfl ?_
    refine V_aload_n dX4_countKnownValues_14 rfl rfl ?_
    refine V_iload_n dX4_countKnownValues_15 rfl rfl ?_
    refine V_callVi (st := []) [.int a2] dX4_countKnownValues_16 ok_mX5_countKnownValues rfl ml_RX4_40 in_mX5_countKnownValues se_mX5_countKnownValues (hS.tn ht2 3 rfl) (hS.tk ht2) (by decide) rfl (Nat.le_of_ble_eq_true rfl) (by decide) (by decide) (by decide) (s_mX5_countKnownValues hS ht2 h) (fun r3 I9 J9 h => ?_)
    obtain ⟨rfl, rfl, h⟩ := h
    exact V_iret dX4_countKnownValues_19 rfl (by decide) (by decide) ⟨_, rfl, rfl, rfl, rfl, h⟩
def wX4_countRows (a1 : Int32) (I : QI) (post : Int32 → Prop) : Prop := (wX4_find a1 I (fun r1 => (r1 = none → post 0) ∧ (∀ t2 : Nat, t2 < 4 → r1 = some t2 → (wX5_count t2 I (fun r3 => post r3)))))
set_option maxRecDepth 100000 in
set_option maxHeartbeats 4000000 in
theorem s_mX4_countRows {X : QX} {S : QS} {a1 : Int32} {I : QI} {J : QJ} {post : Int32 → Prop} (hS : Sh S) (h : wX4_countRows a1 I post) : CX X mX4_countRows 1 0 0 [.ref 1, .int a1] S I J (q_Pi S (fun r I2 J2 => I = I2 ∧ J = J2 ∧ post r)) := by
  refine CX.of (lo := [(0, .ref 1), (1, .int a1)]) ok_mX4_countRows rfl (Nat.le_of_ble_eq_true rfl) rfl ?_
  replace h : (wX4_find a1 I (fun r1 => (r1 = none → post 0) ∧ (∀ t2 : Nat, t2 < 4 → r1 = some t2 → (wX5_count t2 I (fun r3 => post r3))))) := h
  refine V_aload_n dX4_countRows_0 rfl rfl ?_
  refine V_iload_n dX4_countRows_1 rfl rfl ?_
  refine V_callVt (st := []) [.int a1] dX4_countRows_2 ok_mX4_find rfl ml_RX4_29 in_mX4_find se_mX4_find (hS.n 1 rfl) (hS.k 1 4 rfl) (by decide) rfl (Nat.le_of_ble_eq_true rfl) (by decide) (by decide) (by decide) (s_mX4_find hS h) (fun I9 J9 h => ?_) (fun t2 I9 J9 ht2 h => ?_)
  · obtain ⟨rfl, rfl, h⟩ := h
    replace h := h.1 rfl
    refine V_astore_nN (lo2 := [(2, .null), (0, .ref 1), (1, .int a1)]) dX4_countRows_5 rfl (by decide) rfl ?_
    refine V_aload_nN dX4_countRows_6 rfl rfl ?_
    refine V_ifnonnullN dX4_countRows_7 ?_
    refine V_iconst (v := 0) dX4_countRows_10 (by decide) ?_
    refine V_goto 18 dX4_countRows_11 rfl ?_
    exact V_iret dX4_countRows_18 rfl (by decide) (by decide) ⟨_, rfl, rfl, rfl, rfl, h⟩
  · obtain ⟨rfl, rfl, h⟩ := h
    replace h := h.2 t2 ht2 rfl
    refine V_astore_n (lo2 := [(2, .ref (3 + 3 * t2)), (0, .ref 1), (1, .int a1)]) dX4_countRows_5 rfl (by decide) rfl ?_
    refine V_aload_n dX4_countRows_6 rfl rfl ?_
    refine V_ifnonnull 14 dX4_countRows_7 rfl ?_
    refine V_aload_n dX4_countRows_14 rfl rfl ?_
    refine V_callVi (st := []) [] dX4_countRows_15 ok_mX5_count rfl ml_RX4_37 in_mX5_count se_mX5_count (hS.tn ht2 3 rfl) (hS.tk ht2) (by decide) rfl (Nat.le_of_ble_eq_true rfl) (by decide) (by decide) (by decide) (s_mX5_count hS ht2 h) (fun r3 I9 J9 h => ?_)
    obtain ⟨rfl, rfl, h⟩ := h
    exact V_iret dX4_countRows_18 rfl (by decide) (by decide) ⟨_, rfl, rfl, rfl, rfl, h⟩
def wX1_measure_2 (K31 : QI → Prop) (post : QI → Prop) : Nat → Int32 → QI → Prop
  | 0, _, _ => False
  | n + 1, x1, I => ((4 ≤ x1 → (K31 I)) ∧ (¬ 4 ≤ x1 → (wX4_countRows x1 I (fun r1 => (vp_in x1 4 ∧ (∀ I2 : QI, I2 = q_u2 I 42 (x1).toNatClampNeg (if 1 < r1 then r1 else 1) → (∀ v3 : Int32, v3 = (x1 + 1) → (wX1_measure_2 K31 post n v3 I2))))))))
set_option maxRecDepth 100000 in
set_option maxHeartbeats 4000000 in
theorem swX1_measure_2 {X : QX} {S : QS} {J : QJ} {K31 : QI → Prop} {post : QI → Prop} (hS : Sh S) (hK31 : ∀ (I : QI), K31 I → V X mX1_measure 4 0 0 (q_Pv S (fun I2 J2 => J = J2 ∧ post I2)) 31 [(0, .ref 37)] [] S I J 0 0) : ∀ (f : Nat) (x1 : Int32) (I : QI), wX1_measure_2 K31 post f x1 I → V X mX1_measure 4 0 0 (q_Pv S (fun I2 J2 => J = J2 ∧ post I2)) 2 [(0, .ref 37), (1, .int x1)] [] S I J 0 0 := by
  intro f
  induction f with
  | zero => intro x1 I h; exact h.elim
  | succ n ih =>
    intro x1 I h
    replace h : ((4 ≤ x1 → (K31 I)) ∧ (¬ 4 ≤ x1 → (wX4_countRows x1 I (fun r1 => (vp_in x1 4 ∧ (∀ I2 : QI, I2 = q_u2 I 42 (x1).toNatClampNeg (if 1 < r1 then r1 else 1) → (∀ v3 : Int32, v3 = (x1 + 1) → (wX1_measure_2 K31 post n v3 I2)))))))) := h
    refine V_iload_n dX1_measure_2 rfl rfl ?_
    refine V_iconst (v := 4) dX1_measure_3 (by decide) ?_
    refine V_icmp_ge 31 dX1_measure_4 rfl (fun hc => ?_) (fun hc => ?_)
    · replace h := h.1 hc
      refine V_sub (lo2 := [(0, .ref 37)]) [0] rfl ?_
      exact hK31 _ h
    · replace h := h.2 hc
      refine V_aload_n dX1_measure_7 rfl rfl ?_
      refine V_getr dX1_measure_8 fl_RX1_28 (hS.n 37 rfl) (hS.k 37 1 rfl) rfl (hS.r 37 5 42 rfl) ?_
      refine V_iload_n dX1_measure_11 rfl rfl ?_
      refine V_iconst (v := 1) dX1_measure_12 (by decide) ?_
      refine V_aload_n dX1_measure_13 rfl rfl ?_
      refine V_getr dX1_measure_14 fl_RX1_9 (hS.n 37 rfl) (hS.k 37 1 rfl) rfl (hS.r 37 0 1 rfl) ?_
      refine V_iload_n dX1_measure_17 rfl rfl ?_
      refine V_callVi (st := [.int 1, .int x1, .ref 42]) [.int x1] dX1_measure_18 ok_mX4_countRows rfl ml_RX1_58 in_mX4_countRows se_mX4_countRows (hS.n 1 rfl) (hS.k 1 4 rfl) (by decide) rfl (Nat.le_of_ble_eq_true rfl) (by decide) (by decide) (by decide) (s_mX4_countRows hS h) (fun r1 I9 J9 h => ?_)
      obtain ⟨rfl, rfl, h⟩ := h
      refine V_max dX1_measure_21 ml_RX1_63 mm_max.1 mm_max.2.1 mm_max.2.2 (Nat.le_of_ble_eq_true rfl) (by decide) (by decide) ?_
      obtain ⟨hb, h⟩ := h
      refine V_iast dX1_measure_24 (hS.n 42 rfl) (hS.k 42 9 rfl) (by rw [(hS.z 42 4 rfl)]; exact hb) ?_
      refine V_memI (fun I2 e_I2 => ?_)
      replace h := h I2 e_I2
      obtain ⟨v3, e_v3⟩ : ∃ z : Int32, z = (x1 + 1) := ⟨_, rfl⟩
      replace h := h v3 e_v3
      refine V_iinc (lo2 := [(1, .int v3), (0, .ref 37)]) 1 dX1_measure_25 rfl (v := v3) (by rw [e_v3]; first | done | rfl) (by decide) rfl ?_
      refine V_goto 2 dX1_measure_28 rfl ?_
      refine V_sub (lo2 := [(0, .ref 37), (1, .int v3)]) [1, 0] rfl ?_
      exact ih _ _ h
def wX1_measure_33 (post : QI → Prop) : Nat → Int32 → QI → Prop
  | 0, _, _ => False
  | n + 1, x1, I => (((I 37 9) ≤ x1 → post I) ∧ (¬ (I 37 9) ≤ x1 → ((6 ≤ x1 → post I) ∧ (¬ 6 ≤ x1 → (vp_in x1 6 ∧ (vp_in x1 6 ∧ (wX4_countKnownValues (I 38 (x1).toNatClampNeg) (I 39 (x1).toNatClampNeg) I (fun r5 => (vp_in x1 6 ∧ (vp_in x1 6 ∧ (wX4_countKnownValues (I 40 (x1).toNatClampNeg) (I 41 (x1).toNatClampNeg) I (fun r6 => (vp_in x1 6 ∧ (∀ I7 : QI, I7 = q_u2 I 43 (x1).toNatClampNeg (if 1 < (if r5 < r6 then r6 else r5) then (if r5 < r6 then r6 else r5) else 1) → (∀ v8 : Int32, v8 = (x1 + 1) → (wX1_measure_33 post n v8 I7))))))))))))))))
set_option maxRecDepth 100000 in
set_option maxHeartbeats 4000000 in
theorem swX1_measure_33 {X : QX} {S : QS} {J : QJ} {post : QI → Prop} (hS : Sh S) : ∀ (f : Nat) (x1 : Int32) (I : QI), wX1_measure_33 post f x1 I → V X mX1_measure 4 0 0 (q_Pv S (fun I2 J2 => J = J2 ∧ post I2)) 33 [(0, .ref 37), (1, .int x1)] [] S I J 0 0 := by
  intro f
  induction f with
  | zero => intro x1 I h; exact h.elim
  | succ n ih =>
    intro x1 I h
    replace h : (((I 37 9) ≤ x1 → post I) ∧ (¬ (I 37 9) ≤ x1 → ((6 ≤ x1 → post I) ∧ (¬ 6 ≤ x1 → (vp_in x1 6 ∧ (vp_in x1 6 ∧ (wX4_countKnownValues (I 38 (x1).toNatClampNeg) (I 39 (x1).toNatClampNeg) I (fun r5 => (vp_in x1 6 ∧ (vp_in x1 6 ∧ (wX4_countKnownValues (I 40 (x1).toNatClampNeg) (I 41 (x1).toNatClampNeg) I (fun r6 => (vp_in x1 6 ∧ (∀ I7 : QI, I7 = q_u2 I 43 (x1).toNatClampNeg (if 1 < (if r5 < r6 then r6 else r5) then (if r5 < r6 then r6 else r5) else 1) → (∀ v8 : Int32, v8 = (x1 + 1) → (wX1_measure_33 post n v8 I7)))))))))))))))) := h
    refine V_iload_n dX1_measure_33 rfl rfl ?_
    refine V_aload_n dX1_measure_34 rfl rfl ?_
    refine V_geti dX1_measure_35 fl_RX1_40 (hS.n 37 rfl) (hS.k 37 1 rfl) rfl ?_
    refine V_icmp_ge 108 dX1_measure_38 rfl (fun hc => ?_) (fun hc => ?_)
    · replace h := h.1 hc
      exact V_vret dX1_measure_108 rfl (by decide) (by decide) ⟨rfl, rfl, rfl, h⟩
    · replace h := h.2 hc
      refine V_iload_n dX1_measure_41 rfl rfl ?_
      refine V_bipush (v := 6) dX1_measure_42 (by decide) ?_
      refine V_icmp_ge 108 dX1_measure_44 rfl (fun hc => ?_) (fun hc => ?_)
      · replace h := h.1 hc
        exact V_vret dX1_measure_108 rfl (by decide) (by decide) ⟨rfl, rfl, rfl, h⟩
      · replace h := h.2 hc
        refine V_aload_n dX1_measure_47 rfl rfl ?_
        refine V_getr dX1_measure_48 fl_RX1_9 (hS.n 37 rfl) (hS.k 37 1 rfl) rfl (hS.r 37 0 1 rfl) ?_
        refine V_aload_n dX1_measure_51 rfl rfl ?_
        refine V_getr dX1_measure_52 fl_RX1_15 (hS.n 37 rfl) (hS.k 37 1 rfl) rfl (hS.r 37 1 38 rfl) ?_
        refine V_iload_n dX1_measure_55 rfl rfl ?_
        obtain ⟨hb, h⟩ := h
        refine V_iald dX1_measure_56 (hS.n 38 rfl) (hS.k 38 9 rfl) (by rw [(hS.z 38 6 rfl)]; exact hb) ?_
        refine V_aload_n dX1_measure_57 rfl rfl ?_
        refine V_getr dX1_measure_58 fl_RX1_19 (hS.n 37 rfl) (hS.k 37 1 rfl) rfl (hS.r 37 2 39 rfl) ?_
        refine V_iload_n dX1_measure_61 rfl rfl ?_
        obtain ⟨hb, h⟩ := h
        refine V_iald dX1_measure_62 (hS.n 39 rfl) (hS.k 39 9 rfl) (by rw [(hS.z 39 6 rfl)]; exact hb) ?_
        refine V_callVi (st := []) [.int (I 38 (x1).toNatClampNeg), .int (I 39 (x1).toNatClampNeg)] dX1_measure_63 ok_mX4_countKnownValues rfl ml_RX1_69 in_mX4_countKnownValues se_mX4_countKnownValues (hS.n 1 rfl) (hS.k 1 4 rfl) (by decide) rfl (Nat.le_of_ble_eq_true rfl) (by decide) (by decide) (by decide) (s_mX4_countKnownValues hS h) (fun r5 I9 J9 h => ?_)
        obtain ⟨rfl, rfl, h⟩ := h
        refine V_istore_n (lo2 := [(2, .int r5), (0, .ref 37), (1, .int x1)]) dX1_measure_66 rfl (by decide) rfl ?_
        refine V_aload_n dX1_measure_67 rfl rfl ?_
        refine V_getr dX1_measure_68 fl_RX1_9 (hS.n 37 rfl) (hS.k 37 1 rfl) rfl (hS.r 37 0 1 rfl) ?_
        refine V_aload_n dX1_measure_71 rfl rfl ?_
        refine V_getr dX1_measure_72 fl_RX1_22 (hS.n 37 rfl) (hS.k 37 1 rfl) rfl (hS.r 37 3 40 rfl) ?_
        refine V_iload_n dX1_measure_75 rfl rfl ?_
        obtain ⟨hb, h⟩ := h
        refine V_iald dX1_measure_76 (hS.n 40 rfl) (hS.k 40 9 rfl) (by rw [(hS.z 40 6 rfl)]; exact hb) ?_
        refine V_aload_n dX1_measure_77 rfl rfl ?_
        refine V_getr dX1_measure_78 fl_RX1_25 (hS.n 37 rfl) (hS.k 37 1 rfl) rfl (hS.r 37 4 41 rfl) ?_
        refine V_iload_n dX1_measure_81 rfl rfl ?_
        obtain ⟨hb, h⟩ := h
        refine V_iald dX1_measure_82 (hS.n 41 rfl) (hS.k 41 9 rfl) (by rw [(hS.z 41 6 rfl)]; exact hb) ?_
        refine V_callVi (st := []) [.int (I 40 (x1).toNatClampNeg), .int (I 41 (x1).toNatClampNeg)] dX1_measure_83 ok_mX4_countKnownValues rfl ml_RX1_69 in_mX4_countKnownValues se_mX4_countKnownValues (hS.n 1 rfl) (hS.k 1 4 rfl) (by decide) rfl (Nat.le_of_ble_eq_true rfl) (by decide) (by decide) (by decide) (s_mX4_countKnownValues hS h) (fun r6 I9 J9 h => ?_)
        obtain ⟨rfl, rfl, h⟩ := h
        refine V_istore_n (lo2 := [(3, .int r6), (2, .int r5), (0, .ref 37), (1, .int x1)]) dX1_measure_86 rfl (by decide) rfl ?_
        refine V_aload_n dX1_measure_87 rfl rfl ?_
        refine V_getr dX1_measure_88 fl_RX1_31 (hS.n 37 rfl) (hS.k 37 1 rfl) rfl (hS.r 37 6 43 rfl) ?_
        refine V_iload_n dX1_measure_91 rfl rfl ?_
        refine V_iconst (v := 1) dX1_measure_92 (by decide) ?_
        refine V_iload_n dX1_measure_93 rfl rfl ?_
        refine V_iload_n dX1_measure_94 rfl rfl ?_
        refine V_max dX1_measure_95 ml_RX1_63 mm_max.1 mm_max.2.1 mm_max.2.2 (Nat.le_of_ble_eq_true rfl) (by decide) (by decide) ?_
        refine V_max dX1_measure_98 ml_RX1_63 mm_max.1 mm_max.2.1 mm_max.2.2 (Nat.le_of_ble_eq_true rfl) (by decide) (by decide) ?_
        obtain ⟨hb, h⟩ := h
        refine V_iast dX1_measure_101 (hS.n 43 rfl) (hS.k 43 9 rfl) (by rw [(hS.z 43 6 rfl)]; exact hb) ?_
        refine V_memI (fun I7 e_I7 => ?_)
        replace h := h I7 e_I7
        obtain ⟨v8, e_v8⟩ : ∃ z : Int32, z = (x1 + 1) := ⟨_, rfl⟩
        replace h := h v8 e_v8
        refine V_iinc (lo2 := [(1, .int v8), (3, .int r6), (2, .int r5), (0, .ref 37)]) 3 dX1_measure_102 rfl (v := v8) (by rw [e_v8]; first | done | rfl) (by decide) rfl ?_
        refine V_goto 33 dX1_measure_105 rfl ?_
        refine V_sub (lo2 := [(0, .ref 37), (1, .int v8)]) [3, 0] rfl ?_
        exact ih _ _ h
def wX1_measure (I : QI) (post : QI → Prop) : Prop := (∃ f : Nat, wX1_measure_2 (fun I4 => (∃ f : Nat, wX1_measure_33 post f 0 I4)) post f 0 I)
set_option maxRecDepth 100000 in
set_option maxHeartbeats 4000000 in
theorem s_mX1_measure {X : QX} {S : QS} {I : QI} {J : QJ} {post : QI → Prop} (hS : Sh S) (h : wX1_measure I post) : CX X mX1_measure 4 0 0 [.ref 37] S I J (q_Pv S (fun I2 J2 => J = J2 ∧ post I2)) := by
  refine CX.of (lo := [(0, .ref 37)]) ok_mX1_measure rfl (Nat.le_of_ble_eq_true rfl) rfl ?_
  replace h : (∃ f : Nat, wX1_measure_2 (fun I4 => (∃ f : Nat, wX1_measure_33 post f 0 I4)) post f 0 I) := h
  refine V_iconst (v := 0) dX1_measure_0 (by decide) ?_
  refine V_istore_n (lo2 := [(1, .int 0), (0, .ref 37)]) dX1_measure_1 rfl (by decide) rfl ?_
  refine V_sub (lo2 := [(0, .ref 37), (1, .int 0)]) [1, 0] rfl ?_
  obtain ⟨f9, h⟩ := h
  refine swX1_measure_2 hS ?_ f9 _ _ h
  · intro I4 h
    refine V_iconst (v := 0) dX1_measure_31 (by decide) ?_
    refine V_istore_n (lo2 := [(1, .int 0), (0, .ref 37)]) dX1_measure_32 rfl (by decide) rfl ?_
    refine V_sub (lo2 := [(0, .ref 37), (1, .int 0)]) [1, 0] rfl ?_
    obtain ⟨f9, h⟩ := h
    refine swX1_measure_33 hS f9 _ _ h
def wX1_estimateOf (a1 : Int32) (I : QI) (post : Int32 → QI → Prop) : Prop := (wX1_measure I (fun I1 => (wX1_guess a1 I1 (fun r2 => post r2 I1))))
set_option maxRecDepth 100000 in
set_option maxHeartbeats 4000000 in
theorem s_mX1_estimateOf {X : QX} {S : QS} {a1 : Int32} {I : QI} {J : QJ} {post : Int32 → QI → Prop} (hS : Sh S) (h : wX1_estimateOf a1 I post) : CX X mX1_estimateOf 5 0 0 [.ref 37, .int a1] S I J (q_Pi S (fun r I2 J2 => J = J2 ∧ post r I2)) := by
  refine CX.of (lo := [(0, .ref 37), (1, .int a1)]) ok_mX1_estimateOf rfl (Nat.le_of_ble_eq_true rfl) rfl ?_
  replace h : (wX1_measure I (fun I1 => (wX1_guess a1 I1 (fun r2 => post r2 I1)))) := h
  refine V_aload_n dX1_estimateOf_0 rfl rfl ?_
  refine V_callVv (st := []) [] dX1_estimateOf_1 ok_mX1_measure rfl ml_RX1_44 in_mX1_measure se_mX1_measure (hS.n 37 rfl) (hS.k 37 1 rfl) (by decide) rfl (Nat.le_of_ble_eq_true rfl) (by decide) (by decide) (by decide) (s_mX1_measure hS h) (fun I1 J9 h => ?_)
  obtain ⟨rfl, h⟩ := h
  refine V_aload_n dX1_estimateOf_4 rfl rfl ?_
  refine V_iload_n dX1_estimateOf_5 rfl rfl ?_
  refine V_callVi (st := []) [.int a1] dX1_estimateOf_6 ok_mX1_guess rfl ml_RX1_47 in_mX1_guess se_mX1_guess (hS.n 37 rfl) (hS.k 37 1 rfl) (by decide) rfl (Nat.le_of_ble_eq_true rfl) (by decide) (by decide) (by decide) (s_mX1_guess hS h) (fun r2 I9 J9 h => ?_)
  obtain ⟨rfl, rfl, h⟩ := h
  exact V_iret dX1_estimateOf_9 rfl (by decide) (by decide) ⟨_, rfl, rfl, rfl, h⟩
def wX4_hasSet (a1 : Int32) (I : QI) (post : Int32 → Prop) : Prop := ((a1 ≤ 0 → post 0) ∧ (¬ a1 ≤ 0 → (((1 <<< ((I 1 1) &&& 31)) ≤ a1 → post 0) ∧ (¬ (1 <<< ((I 1 1) &&& 31)) ≤ a1 → post 1))))
set_option maxRecDepth 100000 in
set_option maxHeartbeats 4000000 in
theorem s_mX4_hasSet {X : QX} {S : QS} {a1 : Int32} {I : QI} {J : QJ} {post : Int32 → Prop} (hS : Sh S) (h : wX4_hasSet a1 I post) : CX X mX4_hasSet 0 0 0 [.ref 1, .int a1] S I J (q_Pi S (fun r I2 J2 => I = I2 ∧ J = J2 ∧ post r)) := by
  refine CX.of (lo := [(0, .ref 1), (1, .int a1)]) ok_mX4_hasSet rfl (Nat.le_of_ble_eq_true rfl) rfl ?_
  replace h : ((a1 ≤ 0 → post 0) ∧ (¬ a1 ≤ 0 → (((1 <<< ((I 1 1) &&& 31)) ≤ a1 → post 0) ∧ (¬ (1 <<< ((I 1 1) &&& 31)) ≤ a1 → post 1)))) := h
  refine V_iload_n dX4_hasSet_0 rfl rfl ?_
  refine V_if_le 18 dX4_hasSet_1 rfl (fun hc => ?_) (fun hc => ?_)
  · replace h := h.1 hc
    refine V_iconst (v := 0) dX4_hasSet_18 (by decide) ?_
    exact V_zret dX4_hasSet_19 rfl (by decide) (by decide) (by decide) ⟨_, rfl, rfl, rfl, rfl, h⟩
  · replace h := h.2 hc
    refine V_iload_n dX4_hasSet_4 rfl rfl ?_
    refine V_iconst (v := 1) dX4_hasSet_5 (by decide) ?_
    refine V_aload_n dX4_hasSet_6 rfl rfl ?_
    refine V_geti dX4_hasSet_7 fl_RX4_22 (hS.n 1 rfl) (hS.k 1 4 rfl) rfl ?_
    refine V_ishl dX4_hasSet_10 ?_
    refine V_icmp_ge 18 dX4_hasSet_11 rfl (fun hc => ?_) (fun hc => ?_)
    · replace h := h.1 hc
      refine V_iconst (v := 0) dX4_hasSet_18 (by decide) ?_
      exact V_zret dX4_hasSet_19 rfl (by decide) (by decide) (by decide) ⟨_, rfl, rfl, rfl, rfl, h⟩
    · replace h := h.2 hc
      refine V_iconst (v := 1) dX4_hasSet_14 (by decide) ?_
      refine V_goto 19 dX4_hasSet_15 rfl ?_
      exact V_zret dX4_hasSet_19 rfl (by decide) (by decide) (by decide) ⟨_, rfl, rfl, rfl, rfl, h⟩
def wX1_planFor_36 (a1 : Int32) (K123 : Int32 → Int32 → QI → Prop) (post : QI → Prop) : Nat → Int32 → Int32 → Int32 → QI → Prop
  | 0, _, _, _, _ => False
  | n + 1, x2, x3, x4, I => ((a1 ≤ x4 → (K123 x2 x3 I)) ∧ (¬ a1 ≤ x4 → ((¬ (x4 &&& a1) = x4 → (∀ v4 : Int32, v4 = (x4 + 1) → (wX1_planFor_36 a1 K123 post n x2 x3 v4 I))) ∧ ((x4 &&& a1) = x4 → (((x4 &&& x2) = 0 → (∀ v5 : Int32, v5 = (x4 + 1) → (wX1_planFor_36 a1 K123 post n x2 x3 v5 I))) ∧ (¬ (x4 &&& x2) = 0 → (vp_in x4 16 ∧ (vp_in (a1 ^^^ x4) 16 ∧ ((x3 ≤ ((I 44 (x4).toNatClampNeg) + (I 44 ((a1 ^^^ x4)).toNatClampNeg)) → (∀ v6 : Int32, v6 = (x4 + 1) → (wX1_planFor_36 a1 K123 post n x2 x3 v6 I))) ∧ (¬ x3 ≤ ((I 44 (x4).toNatClampNeg) + (I 44 ((a1 ^^^ x4)).toNatClampNeg)) → (vp_in x4 16 ∧ (vp_in (a1 ^^^ x4) 16 ∧ (∀ v7 : Int32, v7 = ((I 44 (x4).toNatClampNeg) + (I 44 ((a1 ^^^ x4)).toNatClampNeg)) → (vp_in a1 16 ∧ (∀ I8 : QI, I8 = q_u2 I 45 (a1).toNatClampNeg x4 → (∀ v9 : Int32, v9 = (x4 + 1) → (wX1_planFor_36 a1 K123 post n x2 v7 v9 I8)))))))))))))))))
set_option maxRecDepth 100000 in
set_option maxHeartbeats 4000000 in
theorem swX1_planFor_36 {X : QX} {S : QS} {a1 : Int32} {J : QJ} {K123 : Int32 → Int32 → QI → Prop} {post : QI → Prop} (hS : Sh S) (hK123 : ∀ (z2 : Int32) (z3 : Int32) (I : QI), K123 z2 z3 I → V X mX1_planFor 2 0 0 (q_Pv S (fun I2 J2 => J = J2 ∧ post I2)) 123 [(0, .ref 37), (1, .int a1), (2, .int z2), (3, .int z3)] [] S I J 0 0) : ∀ (f : Nat) (x2 : Int32) (x3 : Int32) (x4 : Int32) (I : QI), wX1_planFor_36 a1 K123 post f x2 x3 x4 I → V X mX1_planFor 2 0 0 (q_Pv S (fun I2 J2 => J = J2 ∧ post I2)) 36 [(0, .ref 37), (1, .int a1), (2, .int x2), (3, .int x3), (4, .int x4)] [] S I J 0 0 := by
  intro f
  induction f with
  | zero => intro x2 x3 x4 I h; exact h.elim
  | succ n ih =>
    intro x2 x3 x4 I h
    replace h : ((a1 ≤ x4 → (K123 x2 x3 I)) ∧ (¬ a1 ≤ x4 → ((¬ (x4 &&& a1) = x4 → (∀ v4 : Int32, v4 = (x4 + 1) → (wX1_planFor_36 a1 K123 post n x2 x3 v4 I))) ∧ ((x4 &&& a1) = x4 → (((x4 &&& x2) = 0 → (∀ v5 : Int32, v5 = (x4 + 1) → (wX1_planFor_36 a1 K123 post n x2 x3 v5 I))) ∧ (¬ (x4 &&& x2) = 0 → (vp_in x4 16 ∧ (vp_in (a1 ^^^ x4) 16 ∧ ((x3 ≤ ((I 44 (x4).toNatClampNeg) + (I 44 ((a1 ^^^ x4)).toNatClampNeg)) → (∀ v6 : Int32, v6 = (x4 + 1) → (wX1_planFor_36 a1 K123 post n x2 x3 v6 I))) ∧ (¬ x3 ≤ ((I 44 (x4).toNatClampNeg) + (I 44 ((a1 ^^^ x4)).toNatClampNeg)) → (vp_in x4 16 ∧ (vp_in (a1 ^^^ x4) 16 ∧ (∀ v7 : Int32, v7 = ((I 44 (x4).toNatClampNeg) + (I 44 ((a1 ^^^ x4)).toNatClampNeg)) → (vp_in a1 16 ∧ (∀ I8 : QI, I8 = q_u2 I 45 (a1).toNatClampNeg x4 → (∀ v9 : Int32, v9 = (x4 + 1) → (wX1_planFor_36 a1 K123 post n x2 v7 v9 I8))))))))))))))))) := h
    refine V_iload dX1_planFor_36 rfl ?_
    refine V_iload_n dX1_planFor_38 rfl rfl ?_
    refine V_icmp_ge 123 dX1_planFor_39 rfl (fun hc => ?_) (fun hc => ?_)
    · replace h := h.1 hc
      refine V_sub (lo2 := [(0, .ref 37), (1, .int a1), (2, .int x2), (3, .int x3)]) [0, 1, 2, 3] rfl ?_
      exact hK123 _ _ _ h
    · replace h := h.2 hc
      refine V_iload dX1_planFor_42 rfl ?_
      refine V_iload_n dX1_planFor_44 rfl rfl ?_
      refine V_iand dX1_planFor_45 ?_
      refine V_iload dX1_planFor_46 rfl ?_
      refine V_icmp_ne 62 dX1_planFor_48 rfl (fun hc => ?_) (fun hc => ?_)
      · replace h := h.1 hc
        refine V_iconst (v := 0) dX1_planFor_62 (by decide) ?_
        refine V_istore (lo2 := [(5, .int 0), (0, .ref 37), (1, .int a1), (2, .int x2), (3, .int x3), (4, .int x4)]) dX1_planFor_63 (by decide) rfl ?_
        refine V_iload dX1_planFor_65 rfl ?_
        refine V_if_eq 117 dX1_planFor_67 rfl (fun hc => ?_) (fun hc => ?_)
        · obtain ⟨v4, e_v4⟩ : ∃ z : Int32, z = (x4 + 1) := ⟨_, rfl⟩
          replace h := h v4 e_v4
          refine V_iinc (lo2 := [(4, .int v4), (5, .int 0), (0, .ref 37), (1, .int a1), (2, .int x2), (3, .int x3)]) 5 dX1_planFor_117 rfl (v := v4) (by rw [e_v4]; first | done | rfl) (by decide) rfl ?_
          refine V_goto 36 dX1_planFor_120 rfl ?_
          refine V_sub (lo2 := [(0, .ref 37), (1, .int a1), (2, .int x2), (3, .int x3), (4, .int v4)]) [2, 3, 4, 5, 0] rfl ?_
          exact ih _ _ _ _ h
        · first | exact absurd hc (by decide) | exact absurd (by decide) hc
      · replace h := h.2 hc
        refine V_iload dX1_planFor_51 rfl ?_
        refine V_iload_n dX1_planFor_53 rfl rfl ?_
        refine V_iand dX1_planFor_54 ?_
        refine V_if_eq 62 dX1_planFor_55 rfl (fun hc => ?_) (fun hc => ?_)
        · replace h := h.1 hc
          refine V_iconst (v := 0) dX1_planFor_62 (by decide) ?_
          refine V_istore (lo2 := [(5, .int 0), (0, .ref 37), (1, .int a1), (2, .int x2), (3, .int x3), (4, .int x4)]) dX1_planFor_63 (by decide) rfl ?_
          refine V_iload dX1_planFor_65 rfl ?_
          refine V_if_eq 117 dX1_planFor_67 rfl (fun hc => ?_) (fun hc => ?_)
          · obtain ⟨v5, e_v5⟩ : ∃ z : Int32, z = (x4 + 1) := ⟨_, rfl⟩
            replace h := h v5 e_v5
            refine V_iinc (lo2 := [(4, .int v5), (5, .int 0), (0, .ref 37), (1, .int a1), (2, .int x2), (3, .int x3)]) 5 dX1_planFor_117 rfl (v := v5) (by rw [e_v5]; first | done | rfl) (by decide) rfl ?_
            refine V_goto 36 dX1_planFor_120 rfl ?_
            refine V_sub (lo2 := [(0, .ref 37), (1, .int a1), (2, .int x2), (3, .int x3), (4, .int v5)]) [2, 3, 4, 5, 0] rfl ?_
            exact ih _ _ _ _ h
          · first | exact absurd hc (by decide) | exact absurd (by decide) hc
        · replace h := h.2 hc
          refine V_iconst (v := 1) dX1_planFor_58 (by decide) ?_
          refine V_goto 63 dX1_planFor_59 rfl ?_
          refine V_istore (lo2 := [(5, .int 1), (0, .ref 37), (1, .int a1), (2, .int x2), (3, .int x3), (4, .int x4)]) dX1_planFor_63 (by decide) rfl ?_
          refine V_iload dX1_planFor_65 rfl ?_
          refine V_if_eq 117 dX1_planFor_67 rfl (fun hc => ?_) (fun hc => ?_)
          · first | exact absurd hc (by decide) | exact absurd (by decide) hc
          · refine V_aload_n dX1_planFor_70 rfl rfl ?_
            refine V_getr dX1_planFor_71 fl_RX1_34 (hS.n 37 rfl) (hS.k 37 1 rfl) rfl (hS.r 37 7 44 rfl) ?_
            refine V_iload dX1_planFor_74 rfl ?_
            obtain ⟨hb, h⟩ := h
            refine V_iald dX1_planFor_76 (hS.n 44 rfl) (hS.k 44 9 rfl) (by rw [(hS.z 44 16 rfl)]; exact hb) ?_
            refine V_aload_n dX1_planFor_77 rfl rfl ?_
            refine V_getr dX1_planFor_78 fl_RX1_34 (hS.n 37 rfl) (hS.k 37 1 rfl) rfl (hS.r 37 7 44 rfl) ?_
            refine V_iload_n dX1_planFor_81 rfl rfl ?_
            refine V_iload dX1_planFor_82 rfl ?_
            refine V_ixor dX1_planFor_84 ?_
            obtain ⟨hb, h⟩ := h
            refine V_iald dX1_planFor_85 (hS.n 44 rfl) (hS.k 44 9 rfl) (by rw [(hS.z 44 16 rfl)]; exact hb) ?_
            refine V_iadd dX1_planFor_86 ?_
            refine V_iload_n dX1_planFor_87 rfl rfl ?_
            refine V_icmp_ge 117 dX1_planFor_88 rfl (fun hc => ?_) (fun hc => ?_)
            · replace h := h.1 hc
              obtain ⟨v6, e_v6⟩ : ∃ z : Int32, z = (x4 + 1) := ⟨_, rfl⟩
              replace h := h v6 e_v6
              refine V_iinc (lo2 := [(4, .int v6), (5, .int 1), (0, .ref 37), (1, .int a1), (2, .int x2), (3, .int x3)]) 5 dX1_planFor_117 rfl (v := v6) (by rw [e_v6]; first | done | rfl) (by decide) rfl ?_
              refine V_goto 36 dX1_planFor_120 rfl ?_
              refine V_sub (lo2 := [(0, .ref 37), (1, .int a1), (2, .int x2), (3, .int x3), (4, .int v6)]) [2, 3, 4, 5, 0] rfl ?_
              exact ih _ _ _ _ h
            · replace h := h.2 hc
              refine V_aload_n dX1_planFor_91 rfl rfl ?_
              refine V_getr dX1_planFor_92 fl_RX1_34 (hS.n 37 rfl) (hS.k 37 1 rfl) rfl (hS.r 37 7 44 rfl) ?_
              refine V_iload dX1_planFor_95 rfl ?_
              obtain ⟨hb, h⟩ := h
              refine V_iald dX1_planFor_97 (hS.n 44 rfl) (hS.k 44 9 rfl) (by rw [(hS.z 44 16 rfl)]; exact hb) ?_
              refine V_aload_n dX1_planFor_98 rfl rfl ?_
              refine V_getr dX1_planFor_99 fl_RX1_34 (hS.n 37 rfl) (hS.k 37 1 rfl) rfl (hS.r 37 7 44 rfl) ?_
              refine V_iload_n dX1_planFor_102 rfl rfl ?_
              refine V_iload dX1_planFor_103 rfl ?_
              refine V_ixor dX1_planFor_105 ?_
              obtain ⟨hb, h⟩ := h
              refine V_iald dX1_planFor_106 (hS.n 44 rfl) (hS.k 44 9 rfl) (by rw [(hS.z 44 16 rfl)]; exact hb) ?_
              refine V_iadd dX1_planFor_107 ?_
              refine V_topi (fun v7 e_v7 => ?_)
              replace h := h v7 e_v7
              refine V_istore_n (lo2 := [(3, .int v7), (5, .int 1), (0, .ref 37), (1, .int a1), (2, .int x2), (4, .int x4)]) dX1_planFor_108 rfl (by decide) rfl ?_
              refine V_aload_n dX1_planFor_109 rfl rfl ?_
              refine V_getr dX1_planFor_110 fl_RX1_37 (hS.n 37 rfl) (hS.k 37 1 rfl) rfl (hS.r 37 8 45 rfl) ?_
              refine V_iload_n dX1_planFor_113 rfl rfl ?_
              refine V_iload dX1_planFor_114 rfl ?_
              obtain ⟨hb, h⟩ := h
              refine V_iast dX1_planFor_116 (hS.n 45 rfl) (hS.k 45 9 rfl) (by rw [(hS.z 45 16 rfl)]; exact hb) ?_
              refine V_memI (fun I8 e_I8 => ?_)
              replace h := h I8 e_I8
              obtain ⟨v9, e_v9⟩ : ∃ z : Int32, z = (x4 + 1) := ⟨_, rfl⟩
              replace h := h v9 e_v9
              refine V_iinc (lo2 := [(4, .int v9), (3, .int v7), (5, .int 1), (0, .ref 37), (1, .int a1), (2, .int x2)]) 5 dX1_planFor_117 rfl (v := v9) (by rw [e_v9]; first | done | rfl) (by decide) rfl ?_
              refine V_goto 36 dX1_planFor_120 rfl ?_
              refine V_sub (lo2 := [(0, .ref 37), (1, .int a1), (2, .int x2), (3, .int v7), (4, .int v9)]) [3, 4, 5, 1, 0] rfl ?_
              exact ih _ _ _ _ h
def wX1_planFor (a1 : Int32) (I : QI) (post : QI → Prop) : Prop := ((a1 ≤ 0 → post I) ∧ (¬ a1 ≤ 0 → ((a1 < 16 → (∀ v1 : Int32, v1 = (a1 &&& (-a1)) → (vp_in a1 16 ∧ (∀ I2 : QI, I2 = q_u2 I 44 (a1).toNatClampNeg 0 → (vp_in a1 16 ∧ (∀ I3 : QI, I3 = q_u2 I2 45 (a1).toNatClampNeg a1 → (∃ f : Nat, wX1_planFor_36 a1 (fun u10 u11 I12 => ((a1 = u10 → post I12) ∧ (¬ a1 = u10 → (wX1_guess a1 I12 (fun r13 => (vp_in a1 16 ∧ (∀ I14 : QI, I14 = q_u2 I12 44 (a1).toNatClampNeg (u11 + r13) → post I14))))))) post f v1 1000000 v1 I3))))))) ∧ (¬ a1 < 16 → post I))))
set_option maxRecDepth 100000 in
set_option maxHeartbeats 4000000 in
theorem s_mX1_planFor {X : QX} {S : QS} {a1 : Int32} {I : QI} {J : QJ} {post : QI → Prop} (hS : Sh S) (h : wX1_planFor a1 I post) : CX X mX1_planFor 2 0 0 [.ref 37, .int a1] S I J (q_Pv S (fun I2 J2 => J = J2 ∧ post I2)) := by
  refine CX.of (lo := [(0, .ref 37), (1, .int a1)]) ok_mX1_planFor rfl (Nat.le_of_ble_eq_true rfl) rfl ?_
  replace h : ((a1 ≤ 0 → post I) ∧ (¬ a1 ≤ 0 → ((a1 < 16 → (∀ v1 : Int32, v1 = (a1 &&& (-a1)) → (vp_in a1 16 ∧ (∀ I2 : QI, I2 = q_u2 I 44 (a1).toNatClampNeg 0 → (vp_in a1 16 ∧ (∀ I3 : QI, I3 = q_u2 I2 45 (a1).toNatClampNeg a1 → (∃ f : Nat, wX1_planFor_36 a1 (fun u10 u11 I12 => ((a1 = u10 → post I12) ∧ (¬ a1 = u10 → (wX1_guess a1 I12 (fun r13 => (vp_in a1 16 ∧ (∀ I14 : QI, I14 = q_u2 I12 44 (a1).toNatClampNeg (u11 + r13) → post I14))))))) post f v1 1000000 v1 I3))))))) ∧ (¬ a1 < 16 → post I)))) := h
  refine V_iload_n dX1_planFor_0 rfl rfl ?_
  refine V_if_le 10 dX1_planFor_1 rfl (fun hc => ?_) (fun hc => ?_)
  · replace h := h.1 hc
    exact V_vret dX1_planFor_10 rfl (by decide) (by decide) ⟨rfl, rfl, rfl, h⟩
  · replace h := h.2 hc
    refine V_iload_n dX1_planFor_4 rfl rfl ?_
    refine V_bipush (v := 16) dX1_planFor_5 (by decide) ?_
    refine V_icmp_lt 11 dX1_planFor_7 rfl (fun hc => ?_) (fun hc => ?_)
    · replace h := h.1 hc
      refine V_iload_n dX1_planFor_11 rfl rfl ?_
      refine V_iload_n dX1_planFor_12 rfl rfl ?_
      refine V_ineg dX1_planFor_13 ?_
      refine V_iand dX1_planFor_14 ?_
      refine V_topi (fun v1 e_v1 => ?_)
      replace h := h v1 e_v1
      refine V_istore_n (lo2 := [(2, .int v1), (0, .ref 37), (1, .int a1)]) dX1_planFor_15 rfl (by decide) rfl ?_
      refine V_ldc dX1_planFor_16 co_RX1_76 ?_
      refine V_istore_n (lo2 := [(3, .int 1000000), (2, .int v1), (0, .ref 37), (1, .int a1)]) dX1_planFor_18 rfl (by decide) rfl ?_
      refine V_aload_n dX1_planFor_19 rfl rfl ?_
      refine V_getr dX1_planFor_20 fl_RX1_34 (hS.n 37 rfl) (hS.k 37 1 rfl) rfl (hS.r 37 7 44 rfl) ?_
      refine V_iload_n dX1_planFor_23 rfl rfl ?_
      refine V_iconst (v := 0) dX1_planFor_24 (by decide) ?_
      obtain ⟨hb, h⟩ := h
      refine V_iast dX1_planFor_25 (hS.n 44 rfl) (hS.k 44 9 rfl) (by rw [(hS.z 44 16 rfl)]; exact hb) ?_
      refine V_memI (fun I2 e_I2 => ?_)
      replace h := h I2 e_I2
      refine V_aload_n dX1_planFor_26 rfl rfl ?_
      refine V_getr dX1_planFor_27 fl_RX1_37 (hS.n 37 rfl) (hS.k 37 1 rfl) rfl (hS.r 37 8 45 rfl) ?_
      refine V_iload_n dX1_planFor_30 rfl rfl ?_
      refine V_iload_n dX1_planFor_31 rfl rfl ?_
      obtain ⟨hb, h⟩ := h
      refine V_iast dX1_planFor_32 (hS.n 45 rfl) (hS.k 45 9 rfl) (by rw [(hS.z 45 16 rfl)]; exact hb) ?_
      refine V_memI (fun I3 e_I3 => ?_)
      replace h := h I3 e_I3
      refine V_iload_n dX1_planFor_33 rfl rfl ?_
      refine V_istore (lo2 := [(4, .int v1), (3, .int 1000000), (2, .int v1), (0, .ref 37), (1, .int a1)]) dX1_planFor_34 (by decide) rfl ?_
      refine V_sub (lo2 := [(0, .ref 37), (1, .int a1), (2, .int v1), (3, .int 1000000), (4, .int v1)]) [3, 4, 2, 1, 0] rfl ?_
      obtain ⟨f9, h⟩ := h
      refine swX1_planFor_36 hS ?_ f9 _ _ _ _ h
      · intro u10 u11 I12 h
        refine V_iload_n dX1_planFor_123 rfl rfl ?_
        refine V_iload_n dX1_planFor_124 rfl rfl ?_
        refine V_icmp_eq 141 dX1_planFor_125 rfl (fun hc => ?_) (fun hc => ?_)
        · replace h := h.1 hc
          exact V_vret dX1_planFor_141 rfl (by decide) (by decide) ⟨rfl, rfl, rfl, h⟩
        · replace h := h.2 hc
          refine V_aload_n dX1_planFor_128 rfl rfl ?_
          refine V_getr dX1_planFor_129 fl_RX1_34 (hS.n 37 rfl) (hS.k 37 1 rfl) rfl (hS.r 37 7 44 rfl) ?_
          refine V_iload_n dX1_planFor_132 rfl rfl ?_
          refine V_iload_n dX1_planFor_133 rfl rfl ?_
          refine V_aload_n dX1_planFor_134 rfl rfl ?_
          refine V_iload_n dX1_planFor_135 rfl rfl ?_
          refine V_callVi (st := [.int u11, .int a1, .ref 44]) [.int a1] dX1_planFor_136 ok_mX1_guess rfl ml_RX1_47 in_mX1_guess se_mX1_guess (hS.n 37 rfl) (hS.k 37 1 rfl) (by decide) rfl (Nat.le_of_ble_eq_true rfl) (by decide) (by decide) (by decide) (s_mX1_guess hS h) (fun r13 I9 J9 h => ?_)
          obtain ⟨rfl, rfl, h⟩ := h
          refine V_iadd dX1_planFor_139 ?_
          obtain ⟨hb, h⟩ := h
          refine V_iast dX1_planFor_140 (hS.n 44 rfl) (hS.k 44 9 rfl) (by rw [(hS.z 44 16 rfl)]; exact hb) ?_
          refine V_memI (fun I14 e_I14 => ?_)
          replace h := h I14 e_I14
          exact V_vret dX1_planFor_141 rfl (by decide) (by decide) ⟨rfl, rfl, rfl, h⟩
    · replace h := h.2 hc
      exact V_vret dX1_planFor_10 rfl (by decide) (by decide) ⟨rfl, rfl, rfl, h⟩
def wX1_planUpTo_6 (a1 : Int32) (post : QI → Prop) : Nat → Int32 → QI → Prop
  | 0, _, _ => False
  | n + 1, x2, I => ((a1 < x2 → post I) ∧ (¬ a1 < x2 → ((16 ≤ x2 → post I) ∧ (¬ 16 ≤ x2 → ((¬ (x2 &&& a1) = x2 → (∀ v2 : Int32, v2 = (x2 + 1) → (wX1_planUpTo_6 a1 post n v2 I))) ∧ ((x2 &&& a1) = x2 → (wX1_planFor x2 I (fun I3 => (∀ v4 : Int32, v4 = (x2 + 1) → (wX1_planUpTo_6 a1 post n v4 I3))))))))))
set_option maxRecDepth 100000 in
set_option maxHeartbeats 4000000 in
theorem swX1_planUpTo_6 {X : QX} {S : QS} {a1 : Int32} {J : QJ} {post : QI → Prop} (hS : Sh S) : ∀ (f : Nat) (x2 : Int32) (I : QI), wX1_planUpTo_6 a1 post f x2 I → V X mX1_planUpTo 5 0 0 (q_Pv S (fun I2 J2 => J = J2 ∧ post I2)) 6 [(0, .ref 37), (1, .int a1), (2, .int x2)] [] S I J 0 0 := by
  intro f
  induction f with
  | zero => intro x2 I h; exact h.elim
  | succ n ih =>
    intro x2 I h
    replace h : ((a1 < x2 → post I) ∧ (¬ a1 < x2 → ((16 ≤ x2 → post I) ∧ (¬ 16 ≤ x2 → ((¬ (x2 &&& a1) = x2 → (∀ v2 : Int32, v2 = (x2 + 1) → (wX1_planUpTo_6 a1 post n v2 I))) ∧ ((x2 &&& a1) = x2 → (wX1_planFor x2 I (fun I3 => (∀ v4 : Int32, v4 = (x2 + 1) → (wX1_planUpTo_6 a1 post n v4 I3)))))))))) := h
    refine V_iload_n dX1_planUpTo_6 rfl rfl ?_
    refine V_iload_n dX1_planUpTo_7 rfl rfl ?_
    refine V_icmp_gt 35 dX1_planUpTo_8 rfl (fun hc => ?_) (fun hc => ?_)
    · replace h := h.1 hc
      exact V_vret dX1_planUpTo_35 rfl (by decide) (by decide) ⟨rfl, rfl, rfl, h⟩
    · replace h := h.2 hc
      refine V_iload_n dX1_planUpTo_11 rfl rfl ?_
      refine V_bipush (v := 16) dX1_planUpTo_12 (by decide) ?_
      refine V_icmp_ge 35 dX1_planUpTo_14 rfl (fun hc => ?_) (fun hc => ?_)
      · replace h := h.1 hc
        exact V_vret dX1_planUpTo_35 rfl (by decide) (by decide) ⟨rfl, rfl, rfl, h⟩
      · replace h := h.2 hc
        refine V_iload_n dX1_planUpTo_17 rfl rfl ?_
        refine V_iload_n dX1_planUpTo_18 rfl rfl ?_
        refine V_iand dX1_planUpTo_19 ?_
        refine V_iload_n dX1_planUpTo_20 rfl rfl ?_
        refine V_icmp_ne 29 dX1_planUpTo_21 rfl (fun hc => ?_) (fun hc => ?_)
        · replace h := h.1 hc
          obtain ⟨v2, e_v2⟩ : ∃ z : Int32, z = (x2 + 1) := ⟨_, rfl⟩
          replace h := h v2 e_v2
          refine V_iinc (lo2 := [(2, .int v2), (0, .ref 37), (1, .int a1)]) 2 dX1_planUpTo_29 rfl (v := v2) (by rw [e_v2]; first | done | rfl) (by decide) rfl ?_
          refine V_goto 6 dX1_planUpTo_32 rfl ?_
          refine V_sub (lo2 := [(0, .ref 37), (1, .int a1), (2, .int v2)]) [1, 2, 0] rfl ?_
          exact ih _ _ h
        · replace h := h.2 hc
          refine V_aload_n dX1_planUpTo_24 rfl rfl ?_
          refine V_iload_n dX1_planUpTo_25 rfl rfl ?_
          refine V_callVv (st := []) [.int x2] dX1_planUpTo_26 ok_mX1_planFor rfl ml_RX1_55 in_mX1_planFor se_mX1_planFor (hS.n 37 rfl) (hS.k 37 1 rfl) (by decide) rfl (Nat.le_of_ble_eq_true rfl) (by decide) (by decide) (by decide) (s_mX1_planFor hS h) (fun I3 J9 h => ?_)
          obtain ⟨rfl, h⟩ := h
          obtain ⟨v4, e_v4⟩ : ∃ z : Int32, z = (x2 + 1) := ⟨_, rfl⟩
          replace h := h v4 e_v4
          refine V_iinc (lo2 := [(2, .int v4), (0, .ref 37), (1, .int a1)]) 2 dX1_planUpTo_29 rfl (v := v4) (by rw [e_v4]; first | done | rfl) (by decide) rfl ?_
          refine V_goto 6 dX1_planUpTo_32 rfl ?_
          refine V_sub (lo2 := [(0, .ref 37), (1, .int a1), (2, .int v4)]) [1, 2, 0] rfl ?_
          exact ih _ _ h
def wX1_planUpTo (a1 : Int32) (I : QI) (post : QI → Prop) : Prop := (wX1_measure I (fun I1 => (∃ f : Nat, wX1_planUpTo_6 a1 post f 1 I1)))
set_option maxRecDepth 100000 in
set_option maxHeartbeats 4000000 in
theorem s_mX1_planUpTo {X : QX} {S : QS} {a1 : Int32} {I : QI} {J : QJ} {post : QI → Prop} (hS : Sh S) (h : wX1_planUpTo a1 I post) : CX X mX1_planUpTo 5 0 0 [.ref 37, .int a1] S I J (q_Pv S (fun I2 J2 => J = J2 ∧ post I2)) := by
  refine CX.of (lo := [(0, .ref 37), (1, .int a1)]) ok_mX1_planUpTo rfl (Nat.le_of_ble_eq_true rfl) rfl ?_
  replace h : (wX1_measure I (fun I1 => (∃ f : Nat, wX1_planUpTo_6 a1 post f 1 I1))) := h
  refine V_aload_n dX1_planUpTo_0 rfl rfl ?_
  refine V_callVv (st := []) [] dX1_planUpTo_1 ok_mX1_measure rfl ml_RX1_44 in_mX1_measure se_mX1_measure (hS.n 37 rfl) (hS.k 37 1 rfl) (by decide) rfl (Nat.le_of_ble_eq_true rfl) (by decide) (by decide) (by decide) (s_mX1_measure hS h) (fun I1 J9 h => ?_)
  obtain ⟨rfl, h⟩ := h
  refine V_iconst (v := 1) dX1_planUpTo_4 (by decide) ?_
  refine V_istore_n (lo2 := [(2, .int 1), (0, .ref 37), (1, .int a1)]) dX1_planUpTo_5 rfl (by decide) rfl ?_
  refine V_sub (lo2 := [(0, .ref 37), (1, .int a1), (2, .int 1)]) [1, 2, 0] rfl ?_
  obtain ⟨f9, h⟩ := h
  refine swX1_planUpTo_6 hS f9 _ _ h
def wX1_bestCost (a1 : Int32) (I : QI) (post : Int32 → QI → Prop) : Prop := (wX1_planUpTo a1 I (fun I1 => ((a1 < 0 → post 0 I1) ∧ (¬ a1 < 0 → ((16 ≤ a1 → post 0 I1) ∧ (¬ 16 ≤ a1 → (vp_in a1 16 ∧ post (I1 44 (a1).toNatClampNeg) I1)))))))
set_option maxRecDepth 100000 in
set_option maxHeartbeats 4000000 in
theorem s_mX1_bestCost {X : QX} {S : QS} {a1 : Int32} {I : QI} {J : QJ} {post : Int32 → QI → Prop} (hS : Sh S) (h : wX1_bestCost a1 I post) : CX X mX1_bestCost 6 0 0 [.ref 37, .int a1] S I J (q_Pi S (fun r I2 J2 => J = J2 ∧ post r I2)) := by
  refine CX.of (lo := [(0, .ref 37), (1, .int a1)]) ok_mX1_bestCost rfl (Nat.le_of_ble_eq_true rfl) rfl ?_
  replace h : (wX1_planUpTo a1 I (fun I1 => ((a1 < 0 → post 0 I1) ∧ (¬ a1 < 0 → ((16 ≤ a1 → post 0 I1) ∧ (¬ 16 ≤ a1 → (vp_in a1 16 ∧ post (I1 44 (a1).toNatClampNeg) I1))))))) := h
  refine V_aload_n dX1_bestCost_0 rfl rfl ?_
  refine V_iload_n dX1_bestCost_1 rfl rfl ?_
  refine V_callVv (st := []) [.int a1] dX1_bestCost_2 ok_mX1_planUpTo rfl ml_RX1_51 in_mX1_planUpTo se_mX1_planUpTo (hS.n 37 rfl) (hS.k 37 1 rfl) (by decide) rfl (Nat.le_of_ble_eq_true rfl) (by decide) (by decide) (by decide) (s_mX1_planUpTo hS h) (fun I1 J9 h => ?_)
  obtain ⟨rfl, h⟩ := h
  refine V_iload_n dX1_bestCost_5 rfl rfl ?_
  refine V_if_lt 24 dX1_bestCost_6 rfl (fun hc => ?_) (fun hc => ?_)
  · replace h := h.1 hc
    refine V_iconst (v := 0) dX1_bestCost_24 (by decide) ?_
    exact V_iret dX1_bestCost_25 rfl (by decide) (by decide) ⟨_, rfl, rfl, rfl, h⟩
  · replace h := h.2 hc
    refine V_iload_n dX1_bestCost_9 rfl rfl ?_
    refine V_bipush (v := 16) dX1_bestCost_10 (by decide) ?_
    refine V_icmp_ge 24 dX1_bestCost_12 rfl (fun hc => ?_) (fun hc => ?_)
    · replace h := h.1 hc
      refine V_iconst (v := 0) dX1_bestCost_24 (by decide) ?_
      exact V_iret dX1_bestCost_25 rfl (by decide) (by decide) ⟨_, rfl, rfl, rfl, h⟩
    · replace h := h.2 hc
      refine V_aload_n dX1_bestCost_15 rfl rfl ?_
      refine V_getr dX1_bestCost_16 fl_RX1_34 (hS.n 37 rfl) (hS.k 37 1 rfl) rfl (hS.r 37 7 44 rfl) ?_
      refine V_iload_n dX1_bestCost_19 rfl rfl ?_
      obtain ⟨hb, h⟩ := h
      refine V_iald dX1_bestCost_20 (hS.n 44 rfl) (hS.k 44 9 rfl) (by rw [(hS.z 44 16 rfl)]; exact hb) ?_
      refine V_goto 25 dX1_bestCost_21 rfl ?_
      exact V_iret dX1_bestCost_25 rfl (by decide) (by decide) ⟨_, rfl, rfl, rfl, h⟩
def wX1_bestPart (a1 : Int32) (I : QI) (post : Int32 → QI → Prop) : Prop := (wX1_planUpTo a1 I (fun I1 => ((a1 < 0 → post 0 I1) ∧ (¬ a1 < 0 → ((16 ≤ a1 → post 0 I1) ∧ (¬ 16 ≤ a1 → (vp_in a1 16 ∧ post (I1 45 (a1).toNatClampNeg) I1)))))))
set_option maxRecDepth 100000 in
set_option maxHeartbeats 4000000 in
theorem s_mX1_bestPart {X : QX} {S : QS} {a1 : Int32} {I : QI} {J : QJ} {post : Int32 → QI → Prop} (hS : Sh S) (h : wX1_bestPart a1 I post) : CX X mX1_bestPart 6 0 0 [.ref 37, .int a1] S I J (q_Pi S (fun r I2 J2 => J = J2 ∧ post r I2)) := by
  refine CX.of (lo := [(0, .ref 37), (1, .int a1)]) ok_mX1_bestPart rfl (Nat.le_of_ble_eq_true rfl) rfl ?_
  replace h : (wX1_planUpTo a1 I (fun I1 => ((a1 < 0 → post 0 I1) ∧ (¬ a1 < 0 → ((16 ≤ a1 → post 0 I1) ∧ (¬ 16 ≤ a1 → (vp_in a1 16 ∧ post (I1 45 (a1).toNatClampNeg) I1))))))) := h
  refine V_aload_n dX1_bestPart_0 rfl rfl ?_
  refine V_iload_n dX1_bestPart_1 rfl rfl ?_
  refine V_callVv (st := []) [.int a1] dX1_bestPart_2 ok_mX1_planUpTo rfl ml_RX1_51 in_mX1_planUpTo se_mX1_planUpTo (hS.n 37 rfl) (hS.k 37 1 rfl) (by decide) rfl (Nat.le_of_ble_eq_true rfl) (by decide) (by decide) (by decide) (s_mX1_planUpTo hS h) (fun I1 J9 h => ?_)
  obtain ⟨rfl, h⟩ := h
  refine V_iload_n dX1_bestPart_5 rfl rfl ?_
  refine V_if_lt 24 dX1_bestPart_6 rfl (fun hc => ?_) (fun hc => ?_)
  · replace h := h.1 hc
    refine V_iconst (v := 0) dX1_bestPart_24 (by decide) ?_
    exact V_iret dX1_bestPart_25 rfl (by decide) (by decide) ⟨_, rfl, rfl, rfl, h⟩
  · replace h := h.2 hc
    refine V_iload_n dX1_bestPart_9 rfl rfl ?_
    refine V_bipush (v := 16) dX1_bestPart_10 (by decide) ?_
    refine V_icmp_ge 24 dX1_bestPart_12 rfl (fun hc => ?_) (fun hc => ?_)
    · replace h := h.1 hc
      refine V_iconst (v := 0) dX1_bestPart_24 (by decide) ?_
      exact V_iret dX1_bestPart_25 rfl (by decide) (by decide) ⟨_, rfl, rfl, rfl, h⟩
    · replace h := h.2 hc
      refine V_aload_n dX1_bestPart_15 rfl rfl ?_
      refine V_getr dX1_bestPart_16 fl_RX1_37 (hS.n 37 rfl) (hS.k 37 1 rfl) rfl (hS.r 37 8 45 rfl) ?_
      refine V_iload_n dX1_bestPart_19 rfl rfl ?_
      obtain ⟨hb, h⟩ := h
      refine V_iald dX1_bestPart_20 (hS.n 45 rfl) (hS.k 45 9 rfl) (by rw [(hS.z 45 16 rfl)]; exact hb) ?_
      refine V_goto 25 dX1_bestPart_21 rfl ?_
      exact V_iret dX1_bestPart_25 rfl (by decide) (by decide) ⟨_, rfl, rfl, rfl, h⟩
def wX6_append (a1 : Int32) (a2 : Int32) (a3 : Int32) (a4 : Int32) (I : QI) (post : Int32 → QI → Prop) : Prop := (((I 46 5) < 4 → (vp_in (I 46 5) 4 ∧ (∀ I1 : QI, I1 = q_u2 I 47 ((I 46 5)).toNatClampNeg a1 → (vp_in (I1 46 5) 4 ∧ (∀ I2 : QI, I2 = q_u2 I1 48 ((I1 46 5)).toNatClampNeg a2 → (vp_in (I2 46 5) 4 ∧ (∀ I3 : QI, I3 = q_u2 I2 49 ((I2 46 5)).toNatClampNeg a3 → (vp_in (I3 46 5) 4 ∧ (∀ I4 : QI, I4 = q_u2 I3 50 ((I3 46 5)).toNatClampNeg a4 → (∀ I5 : QI, I5 = q_u2 I4 46 5 ((I4 46 5) + 1) → post ((I5 46 5) - 1) I5)))))))))) ∧ (¬ (I 46 5) < 4 → post (-1) I))
set_option maxRecDepth 100000 in
set_option maxHeartbeats 4000000 in
theorem s_mX6_append {X : QX} {S : QS} {a1 : Int32} {a2 : Int32} {a3 : Int32} {a4 : Int32} {I : QI} {J : QJ} {post : Int32 → QI → Prop} (hS : Sh S) (h : wX6_append a1 a2 a3 a4 I post) : CX X mX6_append 0 0 0 [.ref 46, .int a1, .int a2, .int a3, .int a4] S I J (q_Pi S (fun r I2 J2 => J = J2 ∧ post r I2)) := by
  refine CX.of (lo := [(0, .ref 46), (1, .int a1), (2, .int a2), (3, .int a3), (4, .int a4)]) ok_mX6_append rfl (Nat.le_of_ble_eq_true rfl) rfl ?_
  replace h : (((I 46 5) < 4 → (vp_in (I 46 5) 4 ∧ (∀ I1 : QI, I1 = q_u2 I 47 ((I 46 5)).toNatClampNeg a1 → (vp_in (I1 46 5) 4 ∧ (∀ I2 : QI, I2 = q_u2 I1 48 ((I1 46 5)).toNatClampNeg a2 → (vp_in (I2 46 5) 4 ∧ (∀ I3 : QI, I3 = q_u2 I2 49 ((I2 46 5)).toNatClampNeg a3 → (vp_in (I3 46 5) 4 ∧ (∀ I4 : QI, I4 = q_u2 I3 50 ((I3 46 5)).toNatClampNeg a4 → (∀ I5 : QI, I5 = q_u2 I4 46 5 ((I4 46 5) + 1) → post ((I5 46 5) - 1) I5)))))))))) ∧ (¬ (I 46 5) < 4 → post (-1) I)) := h
  refine V_aload_n dX6_append_0 rfl rfl ?_
  refine V_geti dX6_append_1 fl_RX6_28 (hS.n 46 rfl) (hS.k 46 6 rfl) rfl ?_
  refine V_iconst (v := 4) dX6_append_4 (by decide) ?_
  refine V_icmp_lt 10 dX6_append_5 rfl (fun hc => ?_) (fun hc => ?_)
  · replace h := h.1 hc
    refine V_aload_n dX6_append_10 rfl rfl ?_
    refine V_getr dX6_append_11 fl_RX6_15 (hS.n 46 rfl) (hS.k 46 6 rfl) rfl (hS.r 46 1 47 rfl) ?_
    refine V_aload_n dX6_append_14 rfl rfl ?_
    refine V_geti dX6_append_15 fl_RX6_28 (hS.n 46 rfl) (hS.k 46 6 rfl) rfl ?_
    refine V_iload_n dX6_append_18 rfl rfl ?_
    obtain ⟨hb, h⟩ := h
    refine V_iast dX6_append_19 (hS.n 47 rfl) (hS.k 47 9 rfl) (by rw [(hS.z 47 4 rfl)]; exact hb) ?_
    refine V_memI (fun I1 e_I1 => ?_)
    replace h := h I1 e_I1
    refine V_aload_n dX6_append_20 rfl rfl ?_
    refine V_getr dX6_append_21 fl_RX6_19 (hS.n 46 rfl) (hS.k 46 6 rfl) rfl (hS.r 46 2 48 rfl) ?_
    refine V_aload_n dX6_append_24 rfl rfl ?_
    refine V_geti dX6_append_25 fl_RX6_28 (hS.n 46 rfl) (hS.k 46 6 rfl) rfl ?_
    refine V_iload_n dX6_append_28 rfl rfl ?_
    obtain ⟨hb, h⟩ := h
    refine V_iast dX6_append_29 (hS.n 48 rfl) (hS.k 48 9 rfl) (by rw [(hS.z 48 4 rfl)]; exact hb) ?_
    refine V_memI (fun I2 e_I2 => ?_)
    replace h := h I2 e_I2
    refine V_aload_n dX6_append_30 rfl rfl ?_
    refine V_getr dX6_append_31 fl_RX6_22 (hS.n 46 rfl) (hS.k 46 6 rfl) rfl (hS.r 46 3 49 rfl) ?_
    refine V_aload_n dX6_append_34 rfl rfl ?_
    refine V_geti dX6_append_35 fl_RX6_28 (hS.n 46 rfl) (hS.k 46 6 rfl) rfl ?_
    refine V_iload_n dX6_append_38 rfl rfl ?_
    obtain ⟨hb, h⟩ := h
    refine V_iast dX6_append_39 (hS.n 49 rfl) (hS.k 49 9 rfl) (by rw [(hS.z 49 4 rfl)]; exact hb) ?_
    refine V_memI (fun I3 e_I3 => ?_)
    replace h := h I3 e_I3
    refine V_aload_n dX6_append_40 rfl rfl ?_
    refine V_getr dX6_append_41 fl_RX6_25 (hS.n 46 rfl) (hS.k 46 6 rfl) rfl (hS.r 46 4 50 rfl) ?_
    refine V_aload_n dX6_append_44 rfl rfl ?_
    refine V_geti dX6_append_45 fl_RX6_28 (hS.n 46 rfl) (hS.k 46 6 rfl) rfl ?_
    refine V_iload dX6_append_48 rfl ?_
    obtain ⟨hb, h⟩ := h
    refine V_iast dX6_append_50 (hS.n 50 rfl) (hS.k 50 9 rfl) (by rw [(hS.z 50 4 rfl)]; exact hb) ?_
    refine V_memI (fun I4 e_I4 => ?_)
    replace h := h I4 e_I4
    refine V_aload_n dX6_append_51 rfl rfl ?_
    refine V_dup dX6_append_52 rfl ?_
    refine V_geti dX6_append_53 fl_RX6_28 (hS.n 46 rfl) (hS.k 46 6 rfl) rfl ?_
    refine V_iconst (v := 1) dX6_append_56 (by decide) ?_
    refine V_iadd dX6_append_57 ?_
    refine V_puti dX6_append_58 fl_RX6_28 rfl (hS.n 46 rfl) (hS.k 46 6 rfl) rfl rfl rfl ?_
    refine V_memI (fun I5 e_I5 => ?_)
    replace h := h I5 e_I5
    refine V_aload_n dX6_append_61 rfl rfl ?_
    refine V_geti dX6_append_62 fl_RX6_28 (hS.n 46 rfl) (hS.k 46 6 rfl) rfl ?_
    refine V_iconst (v := 1) dX6_append_65 (by decide) ?_
    refine V_isub dX6_append_66 ?_
    exact V_iret dX6_append_67 rfl (by decide) (by decide) ⟨_, rfl, rfl, rfl, h⟩
  · replace h := h.2 hc
    refine V_iconst (v := (-1)) dX6_append_8 (by decide) ?_
    exact V_iret dX6_append_9 rfl (by decide) (by decide) ⟨_, rfl, rfl, rfl, h⟩
def wX6_has (a1 : Int32) (I : QI) (post : Int32 → Prop) : Prop := ((a1 < 0 → post 0) ∧ (¬ a1 < 0 → (((I 46 5) ≤ a1 → post 0) ∧ (¬ (I 46 5) ≤ a1 → ((4 ≤ a1 → post 0) ∧ (¬ 4 ≤ a1 → post 1))))))
set_option maxRecDepth 100000 in
set_option maxHeartbeats 4000000 in
theorem s_mX6_has {X : QX} {S : QS} {a1 : Int32} {I : QI} {J : QJ} {post : Int32 → Prop} (hS : Sh S) (h : wX6_has a1 I post) : CX X mX6_has 0 0 0 [.ref 46, .int a1] S I J (q_Pi S (fun r I2 J2 => I = I2 ∧ J = J2 ∧ post r)) := by
  refine CX.of (lo := [(0, .ref 46), (1, .int a1)]) ok_mX6_has rfl (Nat.le_of_ble_eq_true rfl) rfl ?_
  replace h : ((a1 < 0 → post 0) ∧ (¬ a1 < 0 → (((I 46 5) ≤ a1 → post 0) ∧ (¬ (I 46 5) ≤ a1 → ((4 ≤ a1 → post 0) ∧ (¬ 4 ≤ a1 → post 1)))))) := h
  refine V_iload_n dX6_has_0 rfl rfl ?_
  refine V_if_lt 21 dX6_has_1 rfl (fun hc => ?_) (fun hc => ?_)
  · replace h := h.1 hc
    refine V_iconst (v := 0) dX6_has_21 (by decide) ?_
    exact V_zret dX6_has_22 rfl (by decide) (by decide) (by decide) ⟨_, rfl, rfl, rfl, rfl, h⟩
  · replace h := h.2 hc
    refine V_iload_n dX6_has_4 rfl rfl ?_
    refine V_aload_n dX6_has_5 rfl rfl ?_
    refine V_geti dX6_has_6 fl_RX6_28 (hS.n 46 rfl) (hS.k 46 6 rfl) rfl ?_
    refine V_icmp_ge 21 dX6_has_9 rfl (fun hc => ?_) (fun hc => ?_)
    · replace h := h.1 hc
      refine V_iconst (v := 0) dX6_has_21 (by decide) ?_
      exact V_zret dX6_has_22 rfl (by decide) (by decide) (by decide) ⟨_, rfl, rfl, rfl, rfl, h⟩
    · replace h := h.2 hc
      refine V_iload_n dX6_has_12 rfl rfl ?_
      refine V_iconst (v := 4) dX6_has_13 (by decide) ?_
      refine V_icmp_ge 21 dX6_has_14 rfl (fun hc => ?_) (fun hc => ?_)
      · replace h := h.1 hc
        refine V_iconst (v := 0) dX6_has_21 (by decide) ?_
        exact V_zret dX6_has_22 rfl (by decide) (by decide) (by decide) ⟨_, rfl, rfl, rfl, rfl, h⟩
      · replace h := h.2 hc
        refine V_iconst (v := 1) dX6_has_17 (by decide) ?_
        refine V_goto 22 dX6_has_18 rfl ?_
        exact V_zret dX6_has_22 rfl (by decide) (by decide) (by decide) ⟨_, rfl, rfl, rfl, rfl, h⟩
def wX6_firstOf (a1 : Int32) (I : QI) (post : Option Nat → Prop) : Prop := (wX6_has a1 I (fun r1 => ((r1 = 0 → post none) ∧ (¬ r1 = 0 → (vp_in a1 4 ∧ (wX4_find (I 47 (a1).toNatClampNeg) I (fun r2 => (r2 = none → post none) ∧ (∀ t3 : Nat, t3 < 4 → r2 = some t3 → post (some t3)))))))))
set_option maxRecDepth 100000 in
set_option maxHeartbeats 4000000 in
theorem s_mX6_firstOf {X : QX} {S : QS} {a1 : Int32} {I : QI} {J : QJ} {post : Option Nat → Prop} (hS : Sh S) (h : wX6_firstOf a1 I post) : CX X mX6_firstOf 1 0 0 [.ref 46, .int a1] S I J (q_Pt S (fun r I2 J2 => I = I2 ∧ J = J2 ∧ post r)) := by
  refine CX.of (lo := [(0, .ref 46), (1, .int a1)]) ok_mX6_firstOf rfl (Nat.le_of_ble_eq_true rfl) rfl ?_
  replace h : (wX6_has a1 I (fun r1 => ((r1 = 0 → post none) ∧ (¬ r1 = 0 → (vp_in a1 4 ∧ (wX4_find (I 47 (a1).toNatClampNeg) I (fun r2 => (r2 = none → post none) ∧ (∀ t3 : Nat, t3 < 4 → r2 = some t3 → post (some t3))))))))) := h
  refine V_aload_n dX6_firstOf_0 rfl rfl ?_
  refine V_iload_n dX6_firstOf_1 rfl rfl ?_
  refine V_callVi (st := []) [.int a1] dX6_firstOf_2 ok_mX6_has rfl ml_RX6_45 in_mX6_has se_mX6_has (hS.n 46 rfl) (hS.k 46 6 rfl) (by decide) rfl (Nat.le_of_ble_eq_true rfl) (by decide) (by decide) (by decide) (s_mX6_has hS h) (fun r1 I9 J9 h => ?_)
  obtain ⟨rfl, rfl, h⟩ := h
  refine V_if_eq 24 dX6_firstOf_5 rfl (fun hc => ?_) (fun hc => ?_)
  · replace h := h.1 hc
    refine V_null dX6_firstOf_24 ?_
    exact V_aret dX6_firstOf_25 rfl (Or.inl ⟨_, rfl⟩) (Or.inl rfl) (by decide) (by decide) ⟨none, rfl, rfl, (fun _ z => nomatch z), rfl, rfl, h⟩
  · replace h := h.2 hc
    refine V_aload_n dX6_firstOf_8 rfl rfl ?_
    refine V_getr dX6_firstOf_9 fl_RX6_9 (hS.n 46 rfl) (hS.k 46 6 rfl) rfl (hS.r 46 0 1 rfl) ?_
    refine V_aload_n dX6_firstOf_12 rfl rfl ?_
    refine V_getr dX6_firstOf_13 fl_RX6_15 (hS.n 46 rfl) (hS.k 46 6 rfl) rfl (hS.r 46 1 47 rfl) ?_
    refine V_iload_n dX6_firstOf_16 rfl rfl ?_
    obtain ⟨hb, h⟩ := h
    refine V_iald dX6_firstOf_17 (hS.n 47 rfl) (hS.k 47 9 rfl) (by rw [(hS.z 47 4 rfl)]; exact hb) ?_
    refine V_callVt (st := []) [.int (I 47 (a1).toNatClampNeg)] dX6_firstOf_18 ok_mX4_find rfl ml_RX6_48 in_mX4_find se_mX4_find (hS.n 1 rfl) (hS.k 1 4 rfl) (by decide) rfl (Nat.le_of_ble_eq_true rfl) (by decide) (by decide) (by decide) (s_mX4_find hS h) (fun I9 J9 h => ?_) (fun t3 I9 J9 ht3 h => ?_)
    · obtain ⟨rfl, rfl, h⟩ := h
      replace h := h.1 rfl
      refine V_goto 25 dX6_firstOf_21 rfl ?_
      exact V_aret dX6_firstOf_25 rfl (Or.inl ⟨_, rfl⟩) (Or.inl rfl) (by decide) (by decide) ⟨none, rfl, rfl, (fun _ z => nomatch z), rfl, rfl, h⟩
    · obtain ⟨rfl, rfl, h⟩ := h
      replace h := h.2 t3 ht3 rfl
      refine V_goto 25 dX6_firstOf_21 rfl ?_
      exact V_aret dX6_firstOf_25 rfl (Or.inl ⟨_, rfl⟩) (Or.inr ⟨_, rfl⟩) (by decide) (by decide) ⟨some t3, rfl, rfl, (fun _ z => by cases z; exact ht3), rfl, rfl, h⟩
def wX6_secondOf (a1 : Int32) (I : QI) (post : Option Nat → Prop) : Prop := (wX6_has a1 I (fun r1 => ((r1 = 0 → post none) ∧ (¬ r1 = 0 → (vp_in a1 4 ∧ (wX4_find (I 48 (a1).toNatClampNeg) I (fun r2 => (r2 = none → post none) ∧ (∀ t3 : Nat, t3 < 4 → r2 = some t3 → post (some t3)))))))))
set_option maxRecDepth 100000 in
set_option maxHeartbeats 4000000 in
theorem s_mX6_secondOf {X : QX} {S : QS} {a1 : Int32} {I : QI} {J : QJ} {post : Option Nat → Prop} (hS : Sh S) (h : wX6_secondOf a1 I post) : CX X mX6_secondOf 1 0 0 [.ref 46, .int a1] S I J (q_Pt S (fun r I2 J2 => I = I2 ∧ J = J2 ∧ post r)) := by
  refine CX.of (lo := [(0, .ref 46), (1, .int a1)]) ok_mX6_secondOf rfl (Nat.le_of_ble_eq_true rfl) rfl ?_
  replace h : (wX6_has a1 I (fun r1 => ((r1 = 0 → post none) ∧ (¬ r1 = 0 → (vp_in a1 4 ∧ (wX4_find (I 48 (a1).toNatClampNeg) I (fun r2 => (r2 = none → post none) ∧ (∀ t3 : Nat, t3 < 4 → r2 = some t3 → post (some t3))))))))) := h
  refine V_aload_n dX6_secondOf_0 rfl rfl ?_
  refine V_iload_n dX6_secondOf_1 rfl rfl ?_
  refine V_callVi (st := []) [.int a1] dX6_secondOf_2 ok_mX6_has rfl ml_RX6_45 in_mX6_has se_mX6_has (hS.n 46 rfl) (hS.k 46 6 rfl) (by decide) rfl (Nat.le_of_ble_eq_true rfl) (by decide) (by decide) (by decide) (s_mX6_has hS h) (fun r1 I9 J9 h => ?_)
  obtain ⟨rfl, rfl, h⟩ := h
  refine V_if_eq 24 dX6_secondOf_5 rfl (fun hc => ?_) (fun hc => ?_)
  · replace h := h.1 hc
    refine V_null dX6_secondOf_24 ?_
    exact V_aret dX6_secondOf_25 rfl (Or.inl ⟨_, rfl⟩) (Or.inl rfl) (by decide) (by decide) ⟨none, rfl, rfl, (fun _ z => nomatch z), rfl, rfl, h⟩
  · replace h := h.2 hc
    refine V_aload_n dX6_secondOf_8 rfl rfl ?_
    refine V_getr dX6_secondOf_9 fl_RX6_9 (hS.n 46 rfl) (hS.k 46 6 rfl) rfl (hS.r 46 0 1 rfl) ?_
    refine V_aload_n dX6_secondOf_12 rfl rfl ?_
    refine V_getr dX6_secondOf_13 fl_RX6_19 (hS.n 46 rfl) (hS.k 46 6 rfl) rfl (hS.r 46 2 48 rfl) ?_
    refine V_iload_n dX6_secondOf_16 rfl rfl ?_
    obtain ⟨hb, h⟩ := h
    refine V_iald dX6_secondOf_17 (hS.n 48 rfl) (hS.k 48 9 rfl) (by rw [(hS.z 48 4 rfl)]; exact hb) ?_
    refine V_callVt (st := []) [.int (I 48 (a1).toNatClampNeg)] dX6_secondOf_18 ok_mX4_find rfl ml_RX6_48 in_mX4_find se_mX4_find (hS.n 1 rfl) (hS.k 1 4 rfl) (by decide) rfl (Nat.le_of_ble_eq_true rfl) (by decide) (by decide) (by decide) (s_mX4_find hS h) (fun I9 J9 h => ?_) (fun t3 I9 J9 ht3 h => ?_)
    · obtain ⟨rfl, rfl, h⟩ := h
      replace h := h.1 rfl
      refine V_goto 25 dX6_secondOf_21 rfl ?_
      exact V_aret dX6_secondOf_25 rfl (Or.inl ⟨_, rfl⟩) (Or.inl rfl) (by decide) (by decide) ⟨none, rfl, rfl, (fun _ z => nomatch z), rfl, rfl, h⟩
    · obtain ⟨rfl, rfl, h⟩ := h
      replace h := h.2 t3 ht3 rfl
      refine V_goto 25 dX6_secondOf_21 rfl ?_
      exact V_aret dX6_secondOf_25 rfl (Or.inl ⟨_, rfl⟩) (Or.inr ⟨_, rfl⟩) (by decide) (by decide) ⟨some t3, rfl, rfl, (fun _ z => by cases z; exact ht3), rfl, rfl, h⟩
def wX6_meet (a1 : Int32) (a2 : Int32) (a3 : Int32) (I : QI) (post : Int32 → Prop) : Prop := (wX6_firstOf a1 I (fun r1 => (r1 = none → (wX6_secondOf a1 I (fun r3 => (r3 = none → (wX6_has a1 I (fun r5 => ((r5 = 0 → post 0) ∧ (¬ r5 = 0 → post 0))))) ∧ (∀ t4 : Nat, t4 < 4 → r3 = some t4 → (wX6_has a1 I (fun r6 => ((r6 = 0 → post 0) ∧ (¬ r6 = 0 → post 0)))))))) ∧ (∀ t2 : Nat, t2 < 4 → r1 = some t2 → (wX6_secondOf a1 I (fun r7 => (r7 = none → (wX6_has a1 I (fun r9 => ((r9 = 0 → post 0) ∧ (¬ r9 = 0 → post 0))))) ∧ (∀ t8 : Nat, t8 < 4 → r7 = some t8 → (wX6_has a1 I (fun r10 => ((r10 = 0 → post 0) ∧ (¬ r10 = 0 → (vp_in a1 4 ∧ (wX5_value t2 a2 (I 49 (a1).toNatClampNeg) I (fun r11 => (vp_in a1 4 ∧ (wX5_value t8 a3 (I 50 (a1).toNatClampNeg) I (fun r12 => (wX7_areEqual r11 r12 I (fun r13 => ((r13 = 0 ∨ r13 = 1) ∧ post r13)))))))))))))))))))
set_option maxRecDepth 100000 in
set_option maxHeartbeats 4000000 in
theorem s_mX6_meet {X : QX} {S : QS} {a1 : Int32} {a2 : Int32} {a3 : Int32} {I : QI} {J : QJ} {post : Int32 → Prop} (hS : Sh S) (h : wX6_meet a1 a2 a3 I post) : CX X mX6_meet 2 0 0 [.ref 46, .int a1, .int a2, .int a3] S I J (q_Pi S (fun r I2 J2 => I = I2 ∧ J = J2 ∧ post r)) := by
  refine CX.of (lo := [(0, .ref 46), (1, .int a1), (2, .int a2), (3, .int a3)]) ok_mX6_meet rfl (Nat.le_of_ble_eq_true rfl) rfl ?_
  replace h : (wX6_firstOf a1 I (fun r1 => (r1 = none → (wX6_secondOf a1 I (fun r3 => (r3 = none → (wX6_has a1 I (fun r5 => ((r5 = 0 → post 0) ∧ (¬ r5 = 0 → post 0))))) ∧ (∀ t4 : Nat, t4 < 4 → r3 = some t4 → (wX6_has a1 I (fun r6 => ((r6 = 0 → post 0) ∧ (¬ r6 = 0 → post 0)))))))) ∧ (∀ t2 : Nat, t2 < 4 → r1 = some t2 → (wX6_secondOf a1 I (fun r7 => (r7 = none → (wX6_has a1 I (fun r9 => ((r9 = 0 → post 0) ∧ (¬ r9 = 0 → post 0))))) ∧ (∀ t8 : Nat, t8 < 4 → r7 = some t8 → (wX6_has a1 I (fun r10 => ((r10 = 0 → post 0) ∧ (¬ r10 = 0 → (vp_in a1 4 ∧ (wX5_value t2 a2 (I 49 (a1).toNatClampNeg) I (fun r11 => (vp_in a1 4 ∧ (wX5_value t8 a3 (I 50 (a1).toNatClampNeg) I (fun r12 => (wX7_areEqual r11 r12 I (fun r13 => ((r13 = 0 ∨ r13 = 1) ∧ post r13))))))))))))))))))) := h
  refine V_aload_n dX6_meet_0 rfl rfl ?_
  refine V_iload_n dX6_meet_1 rfl rfl ?_
  refine V_callVt (st := []) [.int a1] dX6_meet_2 ok_mX6_firstOf rfl ml_RX6_32 in_mX6_firstOf se_mX6_firstOf (hS.n 46 rfl) (hS.k 46 6 rfl) (by decide) rfl (Nat.le_of_ble_eq_true rfl) (by decide) (by decide) (by decide) (s_mX6_firstOf hS h) (fun I9 J9 h => ?_) (fun t2 I9 J9 ht2 h => ?_)
  · obtain ⟨rfl, rfl, h⟩ := h
    replace h := h.1 rfl
    refine V_astoreN (lo2 := [(4, .null), (0, .ref 46), (1, .int a1), (2, .int a2), (3, .int a3)]) dX6_meet_5 (by decide) rfl ?_
    refine V_aload_n dX6_meet_7 rfl rfl ?_
    refine V_iload_n dX6_meet_8 rfl rfl ?_
    refine V_callVt (st := []) [.int a1] dX6_meet_9 ok_mX6_secondOf rfl ml_RX6_36 in_mX6_secondOf se_mX6_secondOf (hS.n 46 rfl) (hS.k 46 6 rfl) (by decide) rfl (Nat.le_of_ble_eq_true rfl) (by decide) (by decide) (by decide) (s_mX6_secondOf hS h) (fun I9 J9 h => ?_) (fun t4 I9 J9 ht4 h => ?_)
    · obtain ⟨rfl, rfl, h⟩ := h
      replace h := h.1 rfl
      refine V_astoreN (lo2 := [(5, .null), (4, .null), (0, .ref 46), (1, .int a1), (2, .int a2), (3, .int a3)]) dX6_meet_12 (by decide) rfl ?_
      refine V_aload_n dX6_meet_14 rfl rfl ?_
      refine V_iload_n dX6_meet_15 rfl rfl ?_
      refine V_callVi (st := []) [.int a1] dX6_meet_16 ok_mX6_has rfl ml_RX6_45 in_mX6_has se_mX6_has (hS.n 46 rfl) (hS.k 46 6 rfl) (by decide) rfl (Nat.le_of_ble_eq_true rfl) (by decide) (by decide) (by decide) (s_mX6_has hS h) (fun r5 I9 J9 h => ?_)
      obtain ⟨rfl, rfl, h⟩ := h
      refine V_if_eq 32 dX6_meet_19 rfl (fun hc => ?_) (fun hc => ?_)
      · replace h := h.1 hc
        refine V_iconst (v := 0) dX6_meet_32 (by decide) ?_
        exact V_zret dX6_meet_33 rfl (by decide) (by decide) (by decide) ⟨_, rfl, rfl, rfl, rfl, h⟩
      · replace h := h.2 hc
        refine V_aloadN dX6_meet_22 rfl ?_
        refine V_ifnullN 32 dX6_meet_24 rfl ?_
        refine V_iconst (v := 0) dX6_meet_32 (by decide) ?_
        exact V_zret dX6_meet_33 rfl (by decide) (by decide) (by decide) ⟨_, rfl, rfl, rfl, rfl, h⟩
    · obtain ⟨rfl, rfl, h⟩ := h
      replace h := h.2 t4 ht4 rfl
      refine V_astore (lo2 := [(5, .ref (3 + 3 * t4)), (4, .null), (0, .ref 46), (1, .int a1), (2, .int a2), (3, .int a3)]) dX6_meet_12 (by decide) rfl ?_
      refine V_aload_n dX6_meet_14 rfl rfl ?_
      refine V_iload_n dX6_meet_15 rfl rfl ?_
      refine V_callVi (st := []) [.int a1] dX6_meet_16 ok_mX6_has rfl ml_RX6_45 in_mX6_has se_mX6_has (hS.n 46 rfl) (hS.k 46 6 rfl) (by decide) rfl (Nat.le_of_ble_eq_true rfl) (by decide) (by decide) (by decide) (s_mX6_has hS h) (fun r6 I9 J9 h => ?_)
      obtain ⟨rfl, rfl, h⟩ := h
      refine V_if_eq 32 dX6_meet_19 rfl (fun hc => ?_) (fun hc => ?_)
      · replace h := h.1 hc
        refine V_iconst (v := 0) dX6_meet_32 (by decide) ?_
        exact V_zret dX6_meet_33 rfl (by decide) (by decide) (by decide) ⟨_, rfl, rfl, rfl, rfl, h⟩
      · replace h := h.2 hc
        refine V_aloadN dX6_meet_22 rfl ?_
        refine V_ifnullN 32 dX6_meet_24 rfl ?_
        refine V_iconst (v := 0) dX6_meet_32 (by decide) ?_
        exact V_zret dX6_meet_33 rfl (by decide) (by decide) (by decide) ⟨_, rfl, rfl, rfl, rfl, h⟩
  · obtain ⟨rfl, rfl, h⟩ := h
    replace h := h.2 t2 ht2 rfl
    refine V_astore (lo2 := [(4, .ref (3 + 3 * t2)), (0, .ref 46), (1, .int a1), (2, .int a2), (3, .int a3)]) dX6_meet_5 (by decide) rfl ?_
    refine V_aload_n dX6_meet_7 rfl rfl ?_
    refine V_iload_n dX6_meet_8 rfl rfl ?_
    refine V_callVt (st := []) [.int a1] dX6_meet_9 ok_mX6_secondOf rfl ml_RX6_36 in_mX6_secondOf se_mX6_secondOf (hS.n 46 rfl) (hS.k 46 6 rfl) (by decide) rfl (Nat.le_of_ble_eq_true rfl) (by decide) (by decide) (by decide) (s_mX6_secondOf hS h) (fun I9 J9 h => ?_) (fun t8 I9 J9 ht8 h => ?_)
    · obtain ⟨rfl, rfl, h⟩ := h
      replace h := h.1 rfl
      refine V_astoreN (lo2 := [(5, .null), (4, .ref (3 + 3 * t2)), (0, .ref 46), (1, .int a1), (2, .int a2), (3, .int a3)]) dX6_meet_12 (by decide) rfl ?_
      refine V_aload_n dX6_meet_14 rfl rfl ?_
      refine V_iload_n dX6_meet_15 rfl rfl ?_
      refine V_callVi (st := []) [.int a1] dX6_meet_16 ok_mX6_has rfl ml_RX6_45 in_mX6_has se_mX6_has (hS.n 46 rfl) (hS.k 46 6 rfl) (by decide) rfl (Nat.le_of_ble_eq_true rfl) (by decide) (by decide) (by decide) (s_mX6_has hS h) (fun r9 I9 J9 h => ?_)
      obtain ⟨rfl, rfl, h⟩ := h
      refine V_if_eq 32 dX6_meet_19 rfl (fun hc => ?_) (fun hc => ?_)
      · replace h := h.1 hc
        refine V_iconst (v := 0) dX6_meet_32 (by decide) ?_
        exact V_zret dX6_meet_33 rfl (by decide) (by decide) (by decide) ⟨_, rfl, rfl, rfl, rfl, h⟩
      · replace h := h.2 hc
        refine V_aload dX6_meet_22 rfl ?_
        refine V_ifnull dX6_meet_24 ?_
        refine V_aloadN dX6_meet_27 rfl ?_
        refine V_ifnonnullN dX6_meet_29 ?_
        refine V_iconst (v := 0) dX6_meet_32 (by decide) ?_
        exact V_zret dX6_meet_33 rfl (by decide) (by decide) (by decide) ⟨_, rfl, rfl, rfl, rfl, h⟩
    · obtain ⟨rfl, rfl, h⟩ := h
      replace h := h.2 t8 ht8 rfl
      refine V_astore (lo2 := [(5, .ref (3 + 3 * t8)), (4, .ref (3 + 3 * t2)), (0, .ref 46), (1, .int a1), (2, .int a2), (3, .int a3)]) dX6_meet_12 (by decide) rfl ?_
      refine V_aload_n dX6_meet_14 rfl rfl ?_
      refine V_iload_n dX6_meet_15 rfl rfl ?_
      refine V_callVi (st := []) [.int a1] dX6_meet_16 ok_mX6_has rfl ml_RX6_45 in_mX6_has se_mX6_has (hS.n 46 rfl) (hS.k 46 6 rfl) (by decide) rfl (Nat.le_of_ble_eq_true rfl) (by decide) (by decide) (by decide) (s_mX6_has hS h) (fun r10 I9 J9 h => ?_)
      obtain ⟨rfl, rfl, h⟩ := h
      refine V_if_eq 32 dX6_meet_19 rfl (fun hc => ?_) (fun hc => ?_)
      · replace h := h.1 hc
        refine V_iconst (v := 0) dX6_meet_32 (by decide) ?_
        exact V_zret dX6_meet_33 rfl (by decide) (by decide) (by decide) ⟨_, rfl, rfl, rfl, rfl, h⟩
      · replace h := h.2 hc
        refine V_aload dX6_meet_22 rfl ?_
        refine V_ifnull dX6_meet_24 ?_
        refine V_aload dX6_meet_27 rfl ?_
        refine V_ifnonnull 34 dX6_meet_29 rfl ?_
        refine V_aload dX6_meet_34 rfl ?_
        refine V_iload_n dX6_meet_36 rfl rfl ?_
        refine V_aload_n dX6_meet_37 rfl rfl ?_
        refine V_getr dX6_meet_38 fl_RX6_22 (hS.n 46 rfl) (hS.k 46 6 rfl) rfl (hS.r 46 3 49 rfl) ?_
        refine V_iload_n dX6_meet_41 rfl rfl ?_
        obtain ⟨hb, h⟩ := h
        refine V_iald dX6_meet_42 (hS.n 49 rfl) (hS.k 49 9 rfl) (by rw [(hS.z 49 4 rfl)]; exact hb) ?_
        refine V_callVi (st := []) [.int a2, .int (I 49 (a1).toNatClampNeg)] dX6_meet_43 ok_mX5_value rfl ml_RX6_53 in_mX5_value se_mX5_value (hS.tn ht2 3 rfl) (hS.tk ht2) (by decide) rfl (Nat.le_of_ble_eq_true rfl) (by decide) (by decide) (by decide) (s_mX5_value hS ht2 h) (fun r11 I9 J9 h => ?_)
        obtain ⟨rfl, rfl, h⟩ := h
        refine V_aload dX6_meet_46 rfl ?_
        refine V_iload_n dX6_meet_48 rfl rfl ?_
        refine V_aload_n dX6_meet_49 rfl rfl ?_
        refine V_getr dX6_meet_50 fl_RX6_25 (hS.n 46 rfl) (hS.k 46 6 rfl) rfl (hS.r 46 4 50 rfl) ?_
        refine V_iload_n dX6_meet_53 rfl rfl ?_
        obtain ⟨hb, h⟩ := h
        refine V_iald dX6_meet_54 (hS.n 50 rfl) (hS.k 50 9 rfl) (by rw [(hS.z 50 4 rfl)]; exact hb) ?_
        refine V_callVi (st := [.int r11]) [.int a3, .int (I 50 (a1).toNatClampNeg)] dX6_meet_55 ok_mX5_value rfl ml_RX6_53 in_mX5_value se_mX5_value (hS.tn ht8 3 rfl) (hS.tk ht8) (by decide) rfl (Nat.le_of_ble_eq_true rfl) (by decide) (by decide) (by decide) (s_mX5_value hS ht8 h) (fun r12 I9 J9 h => ?_)
        obtain ⟨rfl, rfl, h⟩ := h
        refine V_callSNi (st := []) (host := "QueryLoft") [.int r11, .int r12] dX6_meet_58 ok_mX7_areEqual rfl (by decide) st_mX7_areEqual (Nat.le_of_ble_eq_true rfl) (by decide) (by decide) (by decide) (s_mX7_areEqual hS h) (fun r13 I9 J9 h => ?_)
        obtain ⟨rfl, rfl, h⟩ := h
        obtain ⟨hz, h⟩ := h
        exact V_zret dX6_meet_61 rfl (q_nz hz) (by decide) (by decide) ⟨_, rfl, rfl, rfl, rfl, h⟩
def wX6_countPartners_12 (a1 : Int32) (a2 : Int32) (I : QI) (post : Int32 → Prop) : Nat → Int32 → Int32 → Prop
  | 0, _, _ => False
  | n + 1, x4, x5 => post x4
set_option maxRecDepth 100000 in
set_option maxHeartbeats 4000000 in
theorem swX6_countPartners_12 {X : QX} {S : QS} {a1 : Int32} {a2 : Int32} {I : QI} {J : QJ} {post : Int32 → Prop} (hS : Sh S) : ∀ (f : Nat) (x4 : Int32) (x5 : Int32), wX6_countPartners_12 a1 a2 I post f x4 x5 → V X mX6_countPartners 3 0 0 (q_Pi S (fun r I2 J2 => I = I2 ∧ J = J2 ∧ post r)) 12 [(0, .ref 46), (1, .int a1), (2, .int a2), (3, .null), (4, .int x4), (5, .int x5)] [] S I J 0 0 := by
  intro f
  induction f with
  | zero => intro x4 x5 h; exact h.elim
  | succ n ih =>
    intro x4 x5 h
    replace h : post x4 := h
    refine V_aload_nN dX6_countPartners_12 rfl rfl ?_
    refine V_ifnullN 54 dX6_countPartners_13 rfl ?_
    refine V_iload dX6_countPartners_54 rfl ?_
    exact V_iret dX6_countPartners_56 rfl (by decide) (by decide) ⟨_, rfl, rfl, rfl, rfl, h⟩
def wX6_countPartners_12_1 (a1 : Int32) (a2 : Int32) (t2 : Nat) (I : QI) (post : Int32 → Prop) : Nat → Int32 → Int32 → Prop
  | 0, _, _ => False
  | n + 1, x4, x5 => (wX5_count t2 I (fun r3 => ((r3 ≤ x5 → post x4) ∧ (¬ r3 ≤ x5 → (wX5_isFirstAlike t2 x5 I (fun r4 => ((r4 = 0 → (∀ v5 : Int32, v5 = (x5 + 1) → (wX6_countPartners_12_1 a1 a2 t2 I post n x4 v5))) ∧ (¬ r4 = 0 → (wX6_meet a1 a2 x5 I (fun r6 => ((r6 = 0 → (∀ v7 : Int32, v7 = (x5 + 1) → (wX6_countPartners_12_1 a1 a2 t2 I post n x4 v7))) ∧ (¬ r6 = 0 → (∀ v8 : Int32, v8 = (x4 + 1) → (∀ v9 : Int32, v9 = (x5 + 1) → (wX6_countPartners_12_1 a1 a2 t2 I post n v8 v9)))))))))))))))
set_option maxRecDepth 100000 in
set_option maxHeartbeats 4000000 in
theorem swX6_countPartners_12_1 {X : QX} {S : QS} {a1 : Int32} {a2 : Int32} {t2 : Nat} {I : QI} {J : QJ} {post : Int32 → Prop} (hS : Sh S) (ht2 : t2 < 4) : ∀ (f : Nat) (x4 : Int32) (x5 : Int32), wX6_countPartners_12_1 a1 a2 t2 I post f x4 x5 → V X mX6_countPartners 3 0 0 (q_Pi S (fun r I2 J2 => I = I2 ∧ J = J2 ∧ post r)) 12 [(0, .ref 46), (1, .int a1), (2, .int a2), (3, .ref (3 + 3 * t2)), (4, .int x4), (5, .int x5)] [] S I J 0 0 := by
  intro f
  induction f with
  | zero => intro x4 x5 h; exact h.elim
  | succ n ih =>
    intro x4 x5 h
    replace h : (wX5_count t2 I (fun r3 => ((r3 ≤ x5 → post x4) ∧ (¬ r3 ≤ x5 → (wX5_isFirstAlike t2 x5 I (fun r4 => ((r4 = 0 → (∀ v5 : Int32, v5 = (x5 + 1) → (wX6_countPartners_12_1 a1 a2 t2 I post n x4 v5))) ∧ (¬ r4 = 0 → (wX6_meet a1 a2 x5 I (fun r6 => ((r6 = 0 → (∀ v7 : Int32, v7 = (x5 + 1) → (wX6_countPartners_12_1 a1 a2 t2 I post n x4 v7))) ∧ (¬ r6 = 0 → (∀ v8 : Int32, v8 = (x4 + 1) → (∀ v9 : Int32, v9 = (x5 + 1) → (wX6_countPartners_12_1 a1 a2 t2 I post n v8 v9))))))))))))))) := h
    refine V_aload_n dX6_countPartners_12 rfl rfl ?_
    refine V_ifnull dX6_countPartners_13 ?_
    refine V_iload dX6_countPartners_16 rfl ?_
    refine V_aload_n dX6_countPartners_18 rfl rfl ?_
    refine V_callVi (st := [.int x5]) [] dX6_countPartners_19 ok_mX5_count rfl ml_RX6_69 in_mX5_count se_mX5_count (hS.tn ht2 3 rfl) (hS.tk ht2) (by decide) rfl (Nat.le_of_ble_eq_true rfl) (by decide) (by decide) (by decide) (s_mX5_count hS ht2 h) (fun r3 I9 J9 h => ?_)
    obtain ⟨rfl, rfl, h⟩ := h
    refine V_icmp_ge 54 dX6_countPartners_22 rfl (fun hc => ?_) (fun hc => ?_)
    · replace h := h.1 hc
      refine V_iload dX6_countPartners_54 rfl ?_
      exact V_iret dX6_countPartners_56 rfl (by decide) (by decide) ⟨_, rfl, rfl, rfl, rfl, h⟩
    · replace h := h.2 hc
      refine V_aload_n dX6_countPartners_25 rfl rfl ?_
      refine V_iload dX6_countPartners_26 rfl ?_
      refine V_callVi (st := []) [.int x5] dX6_countPartners_28 ok_mX5_isFirstAlike rfl ml_RX6_72 in_mX5_isFirstAlike se_mX5_isFirstAlike (hS.tn ht2 3 rfl) (hS.tk ht2) (by decide) rfl (Nat.le_of_ble_eq_true rfl) (by decide) (by decide) (by decide) (s_mX5_isFirstAlike hS ht2 h) (fun r4 I9 J9 h => ?_)
      obtain ⟨rfl, rfl, h⟩ := h
      refine V_if_eq 48 dX6_countPartners_31 rfl (fun hc => ?_) (fun hc => ?_)
      · replace h := h.1 hc
        obtain ⟨v5, e_v5⟩ : ∃ z : Int32, z = (x5 + 1) := ⟨_, rfl⟩
        replace h := h v5 e_v5
        refine V_iinc (lo2 := [(5, .int v5), (0, .ref 46), (1, .int a1), (2, .int a2), (3, .ref (3 + 3 * t2)), (4, .int x4)]) 5 dX6_countPartners_48 rfl (v := v5) (by rw [e_v5]; first | done | rfl) (by decide) rfl ?_
        refine V_goto 12 dX6_countPartners_51 rfl ?_
        refine V_sub (lo2 := [(0, .ref 46), (1, .int a1), (2, .int a2), (3, .ref (3 + 3 * t2)), (4, .int x4), (5, .int v5)]) [1, 2, 3, 4, 5, 0] rfl ?_
        exact ih _ _ h
      · replace h := h.2 hc
        refine V_aload_n dX6_countPartners_34 rfl rfl ?_
        refine V_iload_n dX6_countPartners_35 rfl rfl ?_
        refine V_iload_n dX6_countPartners_36 rfl rfl ?_
        refine V_iload dX6_countPartners_37 rfl ?_
        refine V_callVi (st := []) [.int a1, .int a2, .int x5] dX6_countPartners_39 ok_mX6_meet rfl ml_RX6_61 in_mX6_meet se_mX6_meet (hS.n 46 rfl) (hS.k 46 6 rfl) (by decide) rfl (Nat.le_of_ble_eq_true rfl) (by decide) (by decide) (by decide) (s_mX6_meet hS h) (fun r6 I9 J9 h => ?_)
        obtain ⟨rfl, rfl, h⟩ := h
        refine V_if_eq 48 dX6_countPartners_42 rfl (fun hc => ?_) (fun hc => ?_)
        · replace h := h.1 hc
          obtain ⟨v7, e_v7⟩ : ∃ z : Int32, z = (x5 + 1) := ⟨_, rfl⟩
          replace h := h v7 e_v7
          refine V_iinc (lo2 := [(5, .int v7), (0, .ref 46), (1, .int a1), (2, .int a2), (3, .ref (3 + 3 * t2)), (4, .int x4)]) 5 dX6_countPartners_48 rfl (v := v7) (by rw [e_v7]; first | done | rfl) (by decide) rfl ?_
          refine V_goto 12 dX6_countPartners_51 rfl ?_
          refine V_sub (lo2 := [(0, .ref 46), (1, .int a1), (2, .int a2), (3, .ref (3 + 3 * t2)), (4, .int x4), (5, .int v7)]) [1, 2, 3, 4, 5, 0] rfl ?_
          exact ih _ _ h
        · replace h := h.2 hc
          obtain ⟨v8, e_v8⟩ : ∃ z : Int32, z = (x4 + 1) := ⟨_, rfl⟩
          replace h := h v8 e_v8
          refine V_iinc (lo2 := [(4, .int v8), (0, .ref 46), (1, .int a1), (2, .int a2), (3, .ref (3 + 3 * t2)), (5, .int x5)]) 4 dX6_countPartners_45 rfl (v := v8) (by rw [e_v8]; first | done | rfl) (by decide) rfl ?_
          obtain ⟨v9, e_v9⟩ : ∃ z : Int32, z = (x5 + 1) := ⟨_, rfl⟩
          replace h := h v9 e_v9
          refine V_iinc (lo2 := [(5, .int v9), (4, .int v8), (0, .ref 46), (1, .int a1), (2, .int a2), (3, .ref (3 + 3 * t2))]) 5 dX6_countPartners_48 rfl (v := v9) (by rw [e_v9]; first | done | rfl) (by decide) rfl ?_
          refine V_goto 12 dX6_countPartners_51 rfl ?_
          refine V_sub (lo2 := [(0, .ref 46), (1, .int a1), (2, .int a2), (3, .ref (3 + 3 * t2)), (4, .int v8), (5, .int v9)]) [2, 3, 4, 5, 1, 0] rfl ?_
          exact ih _ _ h
def wX6_countPartners (a1 : Int32) (a2 : Int32) (I : QI) (post : Int32 → Prop) : Prop := (wX6_secondOf a1 I (fun r1 => (r1 = none → (∃ f : Nat, wX6_countPartners_12 a1 a2 I post f 0 0)) ∧ (∀ t2 : Nat, t2 < 4 → r1 = some t2 → (∃ f : Nat, wX6_countPartners_12_1 a1 a2 t2 I post f 0 0))))
set_option maxRecDepth 100000 in
set_option maxHeartbeats 4000000 in
theorem s_mX6_countPartners {X : QX} {S : QS} {a1 : Int32} {a2 : Int32} {I : QI} {J : QJ} {post : Int32 → Prop} (hS : Sh S) (h : wX6_countPartners a1 a2 I post) : CX X mX6_countPartners 3 0 0 [.ref 46, .int a1, .int a2] S I J (q_Pi S (fun r I2 J2 => I = I2 ∧ J = J2 ∧ post r)) := by
  refine CX.of (lo := [(0, .ref 46), (1, .int a1), (2, .int a2)]) ok_mX6_countPartners rfl (Nat.le_of_ble_eq_true rfl) rfl ?_
  replace h : (wX6_secondOf a1 I (fun r1 => (r1 = none → (∃ f : Nat, wX6_countPartners_12 a1 a2 I post f 0 0)) ∧ (∀ t2 : Nat, t2 < 4 → r1 = some t2 → (∃ f : Nat, wX6_countPartners_12_1 a1 a2 t2 I post f 0 0)))) := h
  refine V_aload_n dX6_countPartners_0 rfl rfl ?_
  refine V_iload_n dX6_countPartners_1 rfl rfl ?_
  refine V_callVt (st := []) [.int a1] dX6_countPartners_2 ok_mX6_secondOf rfl ml_RX6_36 in_mX6_secondOf se_mX6_secondOf (hS.n 46 rfl) (hS.k 46 6 rfl) (by decide) rfl (Nat.le_of_ble_eq_true rfl) (by decide) (by decide) (by decide) (s_mX6_secondOf hS h) (fun I9 J9 h => ?_) (fun t2 I9 J9 ht2 h => ?_)
  · obtain ⟨rfl, rfl, h⟩ := h
    replace h := h.1 rfl
    refine V_astore_nN (lo2 := [(3, .null), (0, .ref 46), (1, .int a1), (2, .int a2)]) dX6_countPartners_5 rfl (by decide) rfl ?_
    refine V_iconst (v := 0) dX6_countPartners_6 (by decide) ?_
    refine V_istore (lo2 := [(4, .int 0), (3, .null), (0, .ref 46), (1, .int a1), (2, .int a2)]) dX6_countPartners_7 (by decide) rfl ?_
    refine V_iconst (v := 0) dX6_countPartners_9 (by decide) ?_
    refine V_istore (lo2 := [(5, .int 0), (4, .int 0), (3, .null), (0, .ref 46), (1, .int a1), (2, .int a2)]) dX6_countPartners_10 (by decide) rfl ?_
    refine V_sub (lo2 := [(0, .ref 46), (1, .int a1), (2, .int a2), (3, .null), (4, .int 0), (5, .int 0)]) [3, 4, 5, 2, 1, 0] rfl ?_
    obtain ⟨f9, h⟩ := h
    refine swX6_countPartners_12 hS f9 _ _ h
  · obtain ⟨rfl, rfl, h⟩ := h
    replace h := h.2 t2 ht2 rfl
    refine V_astore_n (lo2 := [(3, .ref (3 + 3 * t2)), (0, .ref 46), (1, .int a1), (2, .int a2)]) dX6_countPartners_5 rfl (by decide) rfl ?_
    refine V_iconst (v := 0) dX6_countPartners_6 (by decide) ?_
    refine V_istore (lo2 := [(4, .int 0), (3, .ref (3 + 3 * t2)), (0, .ref 46), (1, .int a1), (2, .int a2)]) dX6_countPartners_7 (by decide) rfl ?_
    refine V_iconst (v := 0) dX6_countPartners_9 (by decide) ?_
    refine V_istore (lo2 := [(5, .int 0), (4, .int 0), (3, .ref (3 + 3 * t2)), (0, .ref 46), (1, .int a1), (2, .int a2)]) dX6_countPartners_10 (by decide) rfl ?_
    refine V_sub (lo2 := [(0, .ref 46), (1, .int a1), (2, .int a2), (3, .ref (3 + 3 * t2)), (4, .int 0), (5, .int 0)]) [3, 4, 5, 2, 1, 0] rfl ?_
    obtain ⟨f9, h⟩ := h
    refine swX6_countPartners_12_1 hS ht2 f9 _ _ h
def wX6_differentRows_11 (a1 : Int32) (I : QI) (post : Int32 → Prop) : Nat → Int32 → Int32 → Prop
  | 0, _, _ => False
  | n + 1, x3, x4 => post x3
set_option maxRecDepth 100000 in
set_option maxHeartbeats 4000000 in
theorem swX6_differentRows_11 {X : QX} {S : QS} {a1 : Int32} {I : QI} {J : QJ} {post : Int32 → Prop} (hS : Sh S) : ∀ (f : Nat) (x3 : Int32) (x4 : Int32), wX6_differentRows_11 a1 I post f x3 x4 → V X mX6_differentRows 4 0 0 (q_Pi S (fun r I2 J2 => I = I2 ∧ J = J2 ∧ post r)) 11 [(0, .ref 46), (1, .int a1), (2, .null), (3, .int x3), (4, .int x4)] [] S I J 0 0 := by
  intro f
  induction f with
  | zero => intro x3 x4 h; exact h.elim
  | succ n ih =>
    intro x3 x4 h
    replace h : post x3 := h
    refine V_aload_nN dX6_differentRows_11 rfl rfl ?_
    refine V_ifnullN 49 dX6_differentRows_12 rfl ?_
    refine V_iload_n dX6_differentRows_49 rfl rfl ?_
    exact V_iret dX6_differentRows_50 rfl (by decide) (by decide) ⟨_, rfl, rfl, rfl, rfl, h⟩
def wX6_differentRows_11_1 (a1 : Int32) (t2 : Nat) (I : QI) (post : Int32 → Prop) : Nat → Int32 → Int32 → Prop
  | 0, _, _ => False
  | n + 1, x3, x4 => (wX5_count t2 I (fun r3 => ((r3 ≤ x4 → post x3) ∧ (¬ r3 ≤ x4 → (wX5_isFirstAlike t2 x4 I (fun r4 => ((r4 = 0 → (∀ v5 : Int32, v5 = (x4 + 1) → (wX6_differentRows_11_1 a1 t2 I post n x3 v5))) ∧ (¬ r4 = 0 → (wX6_countPartners a1 x4 I (fun r6 => (∀ v7 : Int32, v7 = (x3 + r6) → (∀ v8 : Int32, v8 = (x4 + 1) → (wX6_differentRows_11_1 a1 t2 I post n v7 v8)))))))))))))
set_option maxRecDepth 100000 in
set_option maxHeartbeats 4000000 in
theorem swX6_differentRows_11_1 {X : QX} {S : QS} {a1 : Int32} {t2 : Nat} {I : QI} {J : QJ} {post : Int32 → Prop} (hS : Sh S) (ht2 : t2 < 4) : ∀ (f : Nat) (x3 : Int32) (x4 : Int32), wX6_differentRows_11_1 a1 t2 I post f x3 x4 → V X mX6_differentRows 4 0 0 (q_Pi S (fun r I2 J2 => I = I2 ∧ J = J2 ∧ post r)) 11 [(0, .ref 46), (1, .int a1), (2, .ref (3 + 3 * t2)), (3, .int x3), (4, .int x4)] [] S I J 0 0 := by
  intro f
  induction f with
  | zero => intro x3 x4 h; exact h.elim
  | succ n ih =>
    intro x3 x4 h
    replace h : (wX5_count t2 I (fun r3 => ((r3 ≤ x4 → post x3) ∧ (¬ r3 ≤ x4 → (wX5_isFirstAlike t2 x4 I (fun r4 => ((r4 = 0 → (∀ v5 : Int32, v5 = (x4 + 1) → (wX6_differentRows_11_1 a1 t2 I post n x3 v5))) ∧ (¬ r4 = 0 → (wX6_countPartners a1 x4 I (fun r6 => (∀ v7 : Int32, v7 = (x3 + r6) → (∀ v8 : Int32, v8 = (x4 + 1) → (wX6_differentRows_11_1 a1 t2 I post n v7 v8))))))))))))) := h
    refine V_aload_n dX6_differentRows_11 rfl rfl ?_
    refine V_ifnull dX6_differentRows_12 ?_
    refine V_iload dX6_differentRows_15 rfl ?_
    refine V_aload_n dX6_differentRows_17 rfl rfl ?_
    refine V_callVi (st := [.int x4]) [] dX6_differentRows_18 ok_mX5_count rfl ml_RX6_69 in_mX5_count se_mX5_count (hS.tn ht2 3 rfl) (hS.tk ht2) (by decide) rfl (Nat.le_of_ble_eq_true rfl) (by decide) (by decide) (by decide) (s_mX5_count hS ht2 h) (fun r3 I9 J9 h => ?_)
    obtain ⟨rfl, rfl, h⟩ := h
    refine V_icmp_ge 49 dX6_differentRows_21 rfl (fun hc => ?_) (fun hc => ?_)
    · replace h := h.1 hc
      refine V_iload_n dX6_differentRows_49 rfl rfl ?_
      exact V_iret dX6_differentRows_50 rfl (by decide) (by decide) ⟨_, rfl, rfl, rfl, rfl, h⟩
    · replace h := h.2 hc
      refine V_aload_n dX6_differentRows_24 rfl rfl ?_
      refine V_iload dX6_differentRows_25 rfl ?_
      refine V_callVi (st := []) [.int x4] dX6_differentRows_27 ok_mX5_isFirstAlike rfl ml_RX6_72 in_mX5_isFirstAlike se_mX5_isFirstAlike (hS.tn ht2 3 rfl) (hS.tk ht2) (by decide) rfl (Nat.le_of_ble_eq_true rfl) (by decide) (by decide) (by decide) (s_mX5_isFirstAlike hS ht2 h) (fun r4 I9 J9 h => ?_)
      obtain ⟨rfl, rfl, h⟩ := h
      refine V_if_eq 43 dX6_differentRows_30 rfl (fun hc => ?_) (fun hc => ?_)
      · replace h := h.1 hc
        obtain ⟨v5, e_v5⟩ : ∃ z : Int32, z = (x4 + 1) := ⟨_, rfl⟩
        replace h := h v5 e_v5
        refine V_iinc (lo2 := [(4, .int v5), (0, .ref 46), (1, .int a1), (2, .ref (3 + 3 * t2)), (3, .int x3)]) 4 dX6_differentRows_43 rfl (v := v5) (by rw [e_v5]; first | done | rfl) (by decide) rfl ?_
        refine V_goto 11 dX6_differentRows_46 rfl ?_
        refine V_sub (lo2 := [(0, .ref 46), (1, .int a1), (2, .ref (3 + 3 * t2)), (3, .int x3), (4, .int v5)]) [1, 2, 3, 4, 0] rfl ?_
        exact ih _ _ h
      · replace h := h.2 hc
        refine V_iload_n dX6_differentRows_33 rfl rfl ?_
        refine V_aload_n dX6_differentRows_34 rfl rfl ?_
        refine V_iload_n dX6_differentRows_35 rfl rfl ?_
        refine V_iload dX6_differentRows_36 rfl ?_
        refine V_callVi (st := [.int x3]) [.int a1, .int x4] dX6_differentRows_38 ok_mX6_countPartners rfl ml_RX6_75 in_mX6_countPartners se_mX6_countPartners (hS.n 46 rfl) (hS.k 46 6 rfl) (by decide) rfl (Nat.le_of_ble_eq_true rfl) (by decide) (by decide) (by decide) (s_mX6_countPartners hS h) (fun r6 I9 J9 h => ?_)
        obtain ⟨rfl, rfl, h⟩ := h
        refine V_iadd dX6_differentRows_41 ?_
        refine V_topi (fun v7 e_v7 => ?_)
        replace h := h v7 e_v7
        refine V_istore_n (lo2 := [(3, .int v7), (0, .ref 46), (1, .int a1), (2, .ref (3 + 3 * t2)), (4, .int x4)]) dX6_differentRows_42 rfl (by decide) rfl ?_
        obtain ⟨v8, e_v8⟩ : ∃ z : Int32, z = (x4 + 1) := ⟨_, rfl⟩
        replace h := h v8 e_v8
        refine V_iinc (lo2 := [(4, .int v8), (3, .int v7), (0, .ref 46), (1, .int a1), (2, .ref (3 + 3 * t2))]) 4 dX6_differentRows_43 rfl (v := v8) (by rw [e_v8]; first | done | rfl) (by decide) rfl ?_
        refine V_goto 11 dX6_differentRows_46 rfl ?_
        refine V_sub (lo2 := [(0, .ref 46), (1, .int a1), (2, .ref (3 + 3 * t2)), (3, .int v7), (4, .int v8)]) [2, 3, 4, 1, 0] rfl ?_
        exact ih _ _ h
def wX6_differentRows (a1 : Int32) (I : QI) (post : Int32 → Prop) : Prop := (wX6_firstOf a1 I (fun r1 => (r1 = none → (∃ f : Nat, wX6_differentRows_11 a1 I post f 0 0)) ∧ (∀ t2 : Nat, t2 < 4 → r1 = some t2 → (∃ f : Nat, wX6_differentRows_11_1 a1 t2 I post f 0 0))))
set_option maxRecDepth 100000 in
set_option maxHeartbeats 4000000 in
theorem s_mX6_differentRows {X : QX} {S : QS} {a1 : Int32} {I : QI} {J : QJ} {post : Int32 → Prop} (hS : Sh S) (h : wX6_differentRows a1 I post) : CX X mX6_differentRows 4 0 0 [.ref 46, .int a1] S I J (q_Pi S (fun r I2 J2 => I = I2 ∧ J = J2 ∧ post r)) := by
  refine CX.of (lo := [(0, .ref 46), (1, .int a1)]) ok_mX6_differentRows rfl (Nat.le_of_ble_eq_true rfl) rfl ?_
  replace h : (wX6_firstOf a1 I (fun r1 => (r1 = none → (∃ f : Nat, wX6_differentRows_11 a1 I post f 0 0)) ∧ (∀ t2 : Nat, t2 < 4 → r1 = some t2 → (∃ f : Nat, wX6_differentRows_11_1 a1 t2 I post f 0 0)))) := h
  refine V_aload_n dX6_differentRows_0 rfl rfl ?_
  refine V_iload_n dX6_differentRows_1 rfl rfl ?_
  refine V_callVt (st := []) [.int a1] dX6_differentRows_2 ok_mX6_firstOf rfl ml_RX6_32 in_mX6_firstOf se_mX6_firstOf (hS.n 46 rfl) (hS.k 46 6 rfl) (by decide) rfl (Nat.le_of_ble_eq_true rfl) (by decide) (by decide) (by decide) (s_mX6_firstOf hS h) (fun I9 J9 h => ?_) (fun t2 I9 J9 ht2 h => ?_)
  · obtain ⟨rfl, rfl, h⟩ := h
    replace h := h.1 rfl
    refine V_astore_nN (lo2 := [(2, .null), (0, .ref 46), (1, .int a1)]) dX6_differentRows_5 rfl (by decide) rfl ?_
    refine V_iconst (v := 0) dX6_differentRows_6 (by decide) ?_
    refine V_istore_n (lo2 := [(3, .int 0), (2, .null), (0, .ref 46), (1, .int a1)]) dX6_differentRows_7 rfl (by decide) rfl ?_
    refine V_iconst (v := 0) dX6_differentRows_8 (by decide) ?_
    refine V_istore (lo2 := [(4, .int 0), (3, .int 0), (2, .null), (0, .ref 46), (1, .int a1)]) dX6_differentRows_9 (by decide) rfl ?_
    refine V_sub (lo2 := [(0, .ref 46), (1, .int a1), (2, .null), (3, .int 0), (4, .int 0)]) [3, 4, 2, 1, 0] rfl ?_
    obtain ⟨f9, h⟩ := h
    refine swX6_differentRows_11 hS f9 _ _ h
  · obtain ⟨rfl, rfl, h⟩ := h
    replace h := h.2 t2 ht2 rfl
    refine V_astore_n (lo2 := [(2, .ref (3 + 3 * t2)), (0, .ref 46), (1, .int a1)]) dX6_differentRows_5 rfl (by decide) rfl ?_
    refine V_iconst (v := 0) dX6_differentRows_6 (by decide) ?_
    refine V_istore_n (lo2 := [(3, .int 0), (2, .ref (3 + 3 * t2)), (0, .ref 46), (1, .int a1)]) dX6_differentRows_7 rfl (by decide) rfl ?_
    refine V_iconst (v := 0) dX6_differentRows_8 (by decide) ?_
    refine V_istore (lo2 := [(4, .int 0), (3, .int 0), (2, .ref (3 + 3 * t2)), (0, .ref 46), (1, .int a1)]) dX6_differentRows_9 (by decide) rfl ?_
    refine V_sub (lo2 := [(0, .ref 46), (1, .int a1), (2, .ref (3 + 3 * t2)), (3, .int 0), (4, .int 0)]) [3, 4, 2, 1, 0] rfl ?_
    obtain ⟨f9, h⟩ := h
    refine swX6_differentRows_11_1 hS ht2 f9 _ _ h
def wX6_hasRows (a1 : Int32) (a2 : Int32) (a3 : Int32) (I : QI) (post : Int32 → Prop) : Prop := (wX6_firstOf a1 I (fun r1 => (r1 = none → (wX6_secondOf a1 I (fun r3 => (r3 = none → post 0) ∧ (∀ t4 : Nat, t4 < 4 → r3 = some t4 → post 0)))) ∧ (∀ t2 : Nat, t2 < 4 → r1 = some t2 → (wX6_secondOf a1 I (fun r5 => (r5 = none → post 0) ∧ (∀ t6 : Nat, t6 < 4 → r5 = some t6 → (wX5_hasRow t2 a2 I (fun r7 => ((r7 = 0 → post 0) ∧ (¬ r7 = 0 → (wX5_hasRow t6 a3 I (fun r8 => ((r8 = 0 → post 0) ∧ (¬ r8 = 0 → post 1))))))))))))))
set_option maxRecDepth 100000 in
set_option maxHeartbeats 4000000 in
theorem s_mX6_hasRows {X : QX} {S : QS} {a1 : Int32} {a2 : Int32} {a3 : Int32} {I : QI} {J : QJ} {post : Int32 → Prop} (hS : Sh S) (h : wX6_hasRows a1 a2 a3 I post) : CX X mX6_hasRows 2 0 0 [.ref 46, .int a1, .int a2, .int a3] S I J (q_Pi S (fun r I2 J2 => I = I2 ∧ J = J2 ∧ post r)) := by
  refine CX.of (lo := [(0, .ref 46), (1, .int a1), (2, .int a2), (3, .int a3)]) ok_mX6_hasRows rfl (Nat.le_of_ble_eq_true rfl) rfl ?_
  replace h : (wX6_firstOf a1 I (fun r1 => (r1 = none → (wX6_secondOf a1 I (fun r3 => (r3 = none → post 0) ∧ (∀ t4 : Nat, t4 < 4 → r3 = some t4 → post 0)))) ∧ (∀ t2 : Nat, t2 < 4 → r1 = some t2 → (wX6_secondOf a1 I (fun r5 => (r5 = none → post 0) ∧ (∀ t6 : Nat, t6 < 4 → r5 = some t6 → (wX5_hasRow t2 a2 I (fun r7 => ((r7 = 0 → post 0) ∧ (¬ r7 = 0 → (wX5_hasRow t6 a3 I (fun r8 => ((r8 = 0 → post 0) ∧ (¬ r8 = 0 → post 1)))))))))))))) := h
  refine V_aload_n dX6_hasRows_0 rfl rfl ?_
  refine V_iload_n dX6_hasRows_1 rfl rfl ?_
  refine V_callVt (st := []) [.int a1] dX6_hasRows_2 ok_mX6_firstOf rfl ml_RX6_32 in_mX6_firstOf se_mX6_firstOf (hS.n 46 rfl) (hS.k 46 6 rfl) (by decide) rfl (Nat.le_of_ble_eq_true rfl) (by decide) (by decide) (by decide) (s_mX6_firstOf hS h) (fun I9 J9 h => ?_) (fun t2 I9 J9 ht2 h => ?_)
  · obtain ⟨rfl, rfl, h⟩ := h
    replace h := h.1 rfl
    refine V_astoreN (lo2 := [(4, .null), (0, .ref 46), (1, .int a1), (2, .int a2), (3, .int a3)]) dX6_hasRows_5 (by decide) rfl ?_
    refine V_aload_n dX6_hasRows_7 rfl rfl ?_
    refine V_iload_n dX6_hasRows_8 rfl rfl ?_
    refine V_callVt (st := []) [.int a1] dX6_hasRows_9 ok_mX6_secondOf rfl ml_RX6_36 in_mX6_secondOf se_mX6_secondOf (hS.n 46 rfl) (hS.k 46 6 rfl) (by decide) rfl (Nat.le_of_ble_eq_true rfl) (by decide) (by decide) (by decide) (s_mX6_secondOf hS h) (fun I9 J9 h => ?_) (fun t4 I9 J9 ht4 h => ?_)
    · obtain ⟨rfl, rfl, h⟩ := h
      replace h := h.1 rfl
      refine V_astoreN (lo2 := [(5, .null), (4, .null), (0, .ref 46), (1, .int a1), (2, .int a2), (3, .int a3)]) dX6_hasRows_12 (by decide) rfl ?_
      refine V_aloadN dX6_hasRows_14 rfl ?_
      refine V_ifnullN 46 dX6_hasRows_16 rfl ?_
      refine V_iconst (v := 0) dX6_hasRows_46 (by decide) ?_
      exact V_zret dX6_hasRows_47 rfl (by decide) (by decide) (by decide) ⟨_, rfl, rfl, rfl, rfl, h⟩
    · obtain ⟨rfl, rfl, h⟩ := h
      replace h := h.2 t4 ht4 rfl
      refine V_astore (lo2 := [(5, .ref (3 + 3 * t4)), (4, .null), (0, .ref 46), (1, .int a1), (2, .int a2), (3, .int a3)]) dX6_hasRows_12 (by decide) rfl ?_
      refine V_aloadN dX6_hasRows_14 rfl ?_
      refine V_ifnullN 46 dX6_hasRows_16 rfl ?_
      refine V_iconst (v := 0) dX6_hasRows_46 (by decide) ?_
      exact V_zret dX6_hasRows_47 rfl (by decide) (by decide) (by decide) ⟨_, rfl, rfl, rfl, rfl, h⟩
  · obtain ⟨rfl, rfl, h⟩ := h
    replace h := h.2 t2 ht2 rfl
    refine V_astore (lo2 := [(4, .ref (3 + 3 * t2)), (0, .ref 46), (1, .int a1), (2, .int a2), (3, .int a3)]) dX6_hasRows_5 (by decide) rfl ?_
    refine V_aload_n dX6_hasRows_7 rfl rfl ?_
    refine V_iload_n dX6_hasRows_8 rfl rfl ?_
    refine V_callVt (st := []) [.int a1] dX6_hasRows_9 ok_mX6_secondOf rfl ml_RX6_36 in_mX6_secondOf se_mX6_secondOf (hS.n 46 rfl) (hS.k 46 6 rfl) (by decide) rfl (Nat.le_of_ble_eq_true rfl) (by decide) (by decide) (by decide) (s_mX6_secondOf hS h) (fun I9 J9 h => ?_) (fun t6 I9 J9 ht6 h => ?_)
    · obtain ⟨rfl, rfl, h⟩ := h
      replace h := h.1 rfl
      refine V_astoreN (lo2 := [(5, .null), (4, .ref (3 + 3 * t2)), (0, .ref 46), (1, .int a1), (2, .int a2), (3, .int a3)]) dX6_hasRows_12 (by decide) rfl ?_
      refine V_aload dX6_hasRows_14 rfl ?_
      refine V_ifnull dX6_hasRows_16 ?_
      refine V_aloadN dX6_hasRows_19 rfl ?_
      refine V_ifnullN 46 dX6_hasRows_21 rfl ?_
      refine V_iconst (v := 0) dX6_hasRows_46 (by decide) ?_
      exact V_zret dX6_hasRows_47 rfl (by decide) (by decide) (by decide) ⟨_, rfl, rfl, rfl, rfl, h⟩
    · obtain ⟨rfl, rfl, h⟩ := h
      replace h := h.2 t6 ht6 rfl
      refine V_astore (lo2 := [(5, .ref (3 + 3 * t6)), (4, .ref (3 + 3 * t2)), (0, .ref 46), (1, .int a1), (2, .int a2), (3, .int a3)]) dX6_hasRows_12 (by decide) rfl ?_
      refine V_aload dX6_hasRows_14 rfl ?_
      refine V_ifnull dX6_hasRows_16 ?_
      refine V_aload dX6_hasRows_19 rfl ?_
      refine V_ifnull dX6_hasRows_21 ?_
      refine V_aload dX6_hasRows_24 rfl ?_
      refine V_iload_n dX6_hasRows_26 rfl rfl ?_
      refine V_callVi (st := []) [.int a2] dX6_hasRows_27 ok_mX5_hasRow rfl ml_RX6_39 in_mX5_hasRow se_mX5_hasRow (hS.tn ht2 3 rfl) (hS.tk ht2) (by decide) rfl (Nat.le_of_ble_eq_true rfl) (by decide) (by decide) (by decide) (s_mX5_hasRow hS ht2 h) (fun r7 I9 J9 h => ?_)
      obtain ⟨rfl, rfl, h⟩ := h
      refine V_if_eq 46 dX6_hasRows_30 rfl (fun hc => ?_) (fun hc => ?_)
      · replace h := h.1 hc
        refine V_iconst (v := 0) dX6_hasRows_46 (by decide) ?_
        exact V_zret dX6_hasRows_47 rfl (by decide) (by decide) (by decide) ⟨_, rfl, rfl, rfl, rfl, h⟩
      · replace h := h.2 hc
        refine V_aload dX6_hasRows_33 rfl ?_
        refine V_iload_n dX6_hasRows_35 rfl rfl ?_
        refine V_callVi (st := []) [.int a3] dX6_hasRows_36 ok_mX5_hasRow rfl ml_RX6_39 in_mX5_hasRow se_mX5_hasRow (hS.tn ht6 3 rfl) (hS.tk ht6) (by decide) rfl (Nat.le_of_ble_eq_true rfl) (by decide) (by decide) (by decide) (s_mX5_hasRow hS ht6 h) (fun r8 I9 J9 h => ?_)
        obtain ⟨rfl, rfl, h⟩ := h
        refine V_if_eq 46 dX6_hasRows_39 rfl (fun hc => ?_) (fun hc => ?_)
        · replace h := h.1 hc
          refine V_iconst (v := 0) dX6_hasRows_46 (by decide) ?_
          exact V_zret dX6_hasRows_47 rfl (by decide) (by decide) (by decide) ⟨_, rfl, rfl, rfl, rfl, h⟩
        · replace h := h.2 hc
          refine V_iconst (v := 1) dX6_hasRows_42 (by decide) ?_
          refine V_goto 47 dX6_hasRows_43 rfl ?_
          exact V_zret dX6_hasRows_47 rfl (by decide) (by decide) (by decide) ⟨_, rfl, rfl, rfl, rfl, h⟩
def wX6_timesOf (a1 : Int32) (a2 : Int32) (a3 : Int32) (I : QI) (post : Int32 → Prop) : Prop := (wX6_firstOf a1 I (fun r1 => (r1 = none → (wX6_secondOf a1 I (fun r3 => (r3 = none → post 0) ∧ (∀ t4 : Nat, t4 < 4 → r3 = some t4 → post 0)))) ∧ (∀ t2 : Nat, t2 < 4 → r1 = some t2 → (wX6_secondOf a1 I (fun r5 => (r5 = none → post 0) ∧ (∀ t6 : Nat, t6 < 4 → r5 = some t6 → (wX6_meet a1 a2 a3 I (fun r7 => ((¬ r7 = 0 → (wX5_countAlike t2 a2 I (fun r8 => (wX5_countAlike t6 a3 I (fun r9 => post (r8 * r9)))))) ∧ (r7 = 0 → post 0))))))))))
set_option maxRecDepth 100000 in
set_option maxHeartbeats 4000000 in
theorem s_mX6_timesOf {X : QX} {S : QS} {a1 : Int32} {a2 : Int32} {a3 : Int32} {I : QI} {J : QJ} {post : Int32 → Prop} (hS : Sh S) (h : wX6_timesOf a1 a2 a3 I post) : CX X mX6_timesOf 3 0 0 [.ref 46, .int a1, .int a2, .int a3] S I J (q_Pi S (fun r I2 J2 => I = I2 ∧ J = J2 ∧ post r)) := by
  refine CX.of (lo := [(0, .ref 46), (1, .int a1), (2, .int a2), (3, .int a3)]) ok_mX6_timesOf rfl (Nat.le_of_ble_eq_true rfl) rfl ?_
  replace h : (wX6_firstOf a1 I (fun r1 => (r1 = none → (wX6_secondOf a1 I (fun r3 => (r3 = none → post 0) ∧ (∀ t4 : Nat, t4 < 4 → r3 = some t4 → post 0)))) ∧ (∀ t2 : Nat, t2 < 4 → r1 = some t2 → (wX6_secondOf a1 I (fun r5 => (r5 = none → post 0) ∧ (∀ t6 : Nat, t6 < 4 → r5 = some t6 → (wX6_meet a1 a2 a3 I (fun r7 => ((¬ r7 = 0 → (wX5_countAlike t2 a2 I (fun r8 => (wX5_countAlike t6 a3 I (fun r9 => post (r8 * r9)))))) ∧ (r7 = 0 → post 0)))))))))) := h
  refine V_aload_n dX6_timesOf_0 rfl rfl ?_
  refine V_iload_n dX6_timesOf_1 rfl rfl ?_
  refine V_callVt (st := []) [.int a1] dX6_timesOf_2 ok_mX6_firstOf rfl ml_RX6_32 in_mX6_firstOf se_mX6_firstOf (hS.n 46 rfl) (hS.k 46 6 rfl) (by decide) rfl (Nat.le_of_ble_eq_true rfl) (by decide) (by decide) (by decide) (s_mX6_firstOf hS h) (fun I9 J9 h => ?_) (fun t2 I9 J9 ht2 h => ?_)
  · obtain ⟨rfl, rfl, h⟩ := h
    replace h := h.1 rfl
    refine V_astoreN (lo2 := [(4, .null), (0, .ref 46), (1, .int a1), (2, .int a2), (3, .int a3)]) dX6_timesOf_5 (by decide) rfl ?_
    refine V_aload_n dX6_timesOf_7 rfl rfl ?_
    refine V_iload_n dX6_timesOf_8 rfl rfl ?_
    refine V_callVt (st := []) [.int a1] dX6_timesOf_9 ok_mX6_secondOf rfl ml_RX6_36 in_mX6_secondOf se_mX6_secondOf (hS.n 46 rfl) (hS.k 46 6 rfl) (by decide) rfl (Nat.le_of_ble_eq_true rfl) (by decide) (by decide) (by decide) (s_mX6_secondOf hS h) (fun I9 J9 h => ?_) (fun t4 I9 J9 ht4 h => ?_)
    · obtain ⟨rfl, rfl, h⟩ := h
      replace h := h.1 rfl
      refine V_astoreN (lo2 := [(5, .null), (4, .null), (0, .ref 46), (1, .int a1), (2, .int a2), (3, .int a3)]) dX6_timesOf_12 (by decide) rfl ?_
      refine V_aloadN dX6_timesOf_14 rfl ?_
      refine V_ifnullN 34 dX6_timesOf_16 rfl ?_
      refine V_iconst (v := 0) dX6_timesOf_34 (by decide) ?_
      exact V_iret dX6_timesOf_35 rfl (by decide) (by decide) ⟨_, rfl, rfl, rfl, rfl, h⟩
    · obtain ⟨rfl, rfl, h⟩ := h
      replace h := h.2 t4 ht4 rfl
      refine V_astore (lo2 := [(5, .ref (3 + 3 * t4)), (4, .null), (0, .ref 46), (1, .int a1), (2, .int a2), (3, .int a3)]) dX6_timesOf_12 (by decide) rfl ?_
      refine V_aloadN dX6_timesOf_14 rfl ?_
      refine V_ifnullN 34 dX6_timesOf_16 rfl ?_
      refine V_iconst (v := 0) dX6_timesOf_34 (by decide) ?_
      exact V_iret dX6_timesOf_35 rfl (by decide) (by decide) ⟨_, rfl, rfl, rfl, rfl, h⟩
  · obtain ⟨rfl, rfl, h⟩ := h
    replace h := h.2 t2 ht2 rfl
    refine V_astore (lo2 := [(4, .ref (3 + 3 * t2)), (0, .ref 46), (1, .int a1), (2, .int a2), (3, .int a3)]) dX6_timesOf_5 (by decide) rfl ?_
    refine V_aload_n dX6_timesOf_7 rfl rfl ?_
    refine V_iload_n dX6_timesOf_8 rfl rfl ?_
    refine V_callVt (st := []) [.int a1] dX6_timesOf_9 ok_mX6_secondOf rfl ml_RX6_36 in_mX6_secondOf se_mX6_secondOf (hS.n 46 rfl) (hS.k 46 6 rfl) (by decide) rfl (Nat.le_of_ble_eq_true rfl) (by decide) (by decide) (by decide) (s_mX6_secondOf hS h) (fun I9 J9 h => ?_) (fun t6 I9 J9 ht6 h => ?_)
    · obtain ⟨rfl, rfl, h⟩ := h
      replace h := h.1 rfl
      refine V_astoreN (lo2 := [(5, .null), (4, .ref (3 + 3 * t2)), (0, .ref 46), (1, .int a1), (2, .int a2), (3, .int a3)]) dX6_timesOf_12 (by decide) rfl ?_
      refine V_aload dX6_timesOf_14 rfl ?_
      refine V_ifnull dX6_timesOf_16 ?_
      refine V_aloadN dX6_timesOf_19 rfl ?_
      refine V_ifnullN 34 dX6_timesOf_21 rfl ?_
      refine V_iconst (v := 0) dX6_timesOf_34 (by decide) ?_
      exact V_iret dX6_timesOf_35 rfl (by decide) (by decide) ⟨_, rfl, rfl, rfl, rfl, h⟩
    · obtain ⟨rfl, rfl, h⟩ := h
      replace h := h.2 t6 ht6 rfl
      refine V_astore (lo2 := [(5, .ref (3 + 3 * t6)), (4, .ref (3 + 3 * t2)), (0, .ref 46), (1, .int a1), (2, .int a2), (3, .int a3)]) dX6_timesOf_12 (by decide) rfl ?_
      refine V_aload dX6_timesOf_14 rfl ?_
      refine V_ifnull dX6_timesOf_16 ?_
      refine V_aload dX6_timesOf_19 rfl ?_
      refine V_ifnull dX6_timesOf_21 ?_
      refine V_aload_n dX6_timesOf_24 rfl rfl ?_
      refine V_iload_n dX6_timesOf_25 rfl rfl ?_
      refine V_iload_n dX6_timesOf_26 rfl rfl ?_
      refine V_iload_n dX6_timesOf_27 rfl rfl ?_
      refine V_callVi (st := []) [.int a1, .int a2, .int a3] dX6_timesOf_28 ok_mX6_meet rfl ml_RX6_61 in_mX6_meet se_mX6_meet (hS.n 46 rfl) (hS.k 46 6 rfl) (by decide) rfl (Nat.le_of_ble_eq_true rfl) (by decide) (by decide) (by decide) (s_mX6_meet hS h) (fun r7 I9 J9 h => ?_)
      obtain ⟨rfl, rfl, h⟩ := h
      refine V_if_ne 36 dX6_timesOf_31 rfl (fun hc => ?_) (fun hc => ?_)
      · replace h := h.1 hc
        refine V_aload dX6_timesOf_36 rfl ?_
        refine V_iload_n dX6_timesOf_38 rfl rfl ?_
        refine V_callVi (st := []) [.int a2] dX6_timesOf_39 ok_mX5_countAlike rfl ml_RX6_65 in_mX5_countAlike se_mX5_countAlike (hS.tn ht2 3 rfl) (hS.tk ht2) (by decide) rfl (Nat.le_of_ble_eq_true rfl) (by decide) (by decide) (by decide) (s_mX5_countAlike hS ht2 h) (fun r8 I9 J9 h => ?_)
        obtain ⟨rfl, rfl, h⟩ := h
        refine V_aload dX6_timesOf_42 rfl ?_
        refine V_iload_n dX6_timesOf_44 rfl rfl ?_
        refine V_callVi (st := [.int r8]) [.int a3] dX6_timesOf_45 ok_mX5_countAlike rfl ml_RX6_65 in_mX5_countAlike se_mX5_countAlike (hS.tn ht6 3 rfl) (hS.tk ht6) (by decide) rfl (Nat.le_of_ble_eq_true rfl) (by decide) (by decide) (by decide) (s_mX5_countAlike hS ht6 h) (fun r9 I9 J9 h => ?_)
        obtain ⟨rfl, rfl, h⟩ := h
        refine V_imul dX6_timesOf_48 ?_
        exact V_iret dX6_timesOf_49 rfl (by decide) (by decide) ⟨_, rfl, rfl, rfl, rfl, h⟩
      · replace h := h.2 hc
        refine V_iconst (v := 0) dX6_timesOf_34 (by decide) ?_
        exact V_iret dX6_timesOf_35 rfl (by decide) (by decide) ⟨_, rfl, rfl, rfl, rfl, h⟩
