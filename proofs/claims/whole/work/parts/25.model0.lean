def wX8_thrown (I : QI) (post : Int32 → Prop) : Prop := post (I 51 0)
set_option maxRecDepth 100000 in
set_option maxHeartbeats 4000000 in
theorem s_mX8_thrown {X : QX} {S : QS} {I : QI} {J : QJ} {post : Int32 → Prop} (hS : Sh S) (h : wX8_thrown I post) : CX X mX8_thrown 0 0 0 [.ref 51] S I J (q_Pi S (fun r I2 J2 => I = I2 ∧ J = J2 ∧ post r)) := by
  refine CX.of (lo := [(0, .ref 51)]) ok_mX8_thrown rfl (Nat.le_of_ble_eq_true rfl) rfl ?_
  replace h : post (I 51 0) := h
  refine V_aload_n dX8_thrown_0 rfl rfl ?_
  refine V_geti dX8_thrown_1 fl_RX8_98 (hS.n 51 rfl) (hS.k 51 8 rfl) rfl ?_
  exact V_iret dX8_thrown_4 rfl (by decide) (by decide) ⟨_, rfl, rfl, rfl, rfl, h⟩
def wX8_goesWell (a1 : Int32) (I : QI) (post : Int32 → QI → Prop) : Prop := (∀ I1 : QI, I1 = q_u2 I 51 0 a1 → ((¬ a1 = 0 → post 0 I1) ∧ (a1 = 0 → post 1 I1)))
set_option maxRecDepth 100000 in
set_option maxHeartbeats 4000000 in
theorem s_mX8_goesWell {X : QX} {S : QS} {a1 : Int32} {I : QI} {J : QJ} {post : Int32 → QI → Prop} (hS : Sh S) (h : wX8_goesWell a1 I post) : CX X mX8_goesWell 0 0 0 [.ref 51, .int a1] S I J (q_Pi S (fun r I2 J2 => J = J2 ∧ post r I2)) := by
  refine CX.of (lo := [(0, .ref 51), (1, .int a1)]) ok_mX8_goesWell rfl (Nat.le_of_ble_eq_true rfl) rfl ?_
  replace h : (∀ I1 : QI, I1 = q_u2 I 51 0 a1 → ((¬ a1 = 0 → post 0 I1) ∧ (a1 = 0 → post 1 I1))) := h
  refine V_aload_n dX8_goesWell_0 rfl rfl ?_
  refine V_iload_n dX8_goesWell_1 rfl rfl ?_
  refine V_puti dX8_goesWell_2 fl_RX8_98 rfl (hS.n 51 rfl) (hS.k 51 8 rfl) rfl rfl rfl ?_
  refine V_memI (fun I1 e_I1 => ?_)
  replace h := h I1 e_I1
  refine V_iload_n dX8_goesWell_5 rfl rfl ?_
  refine V_if_ne 13 dX8_goesWell_6 rfl (fun hc => ?_) (fun hc => ?_)
  · replace h := h.1 hc
    refine V_iconst (v := 0) dX8_goesWell_13 (by decide) ?_
    exact V_zret dX8_goesWell_14 rfl (by decide) (by decide) (by decide) ⟨_, rfl, rfl, rfl, h⟩
  · replace h := h.2 hc
    refine V_iconst (v := 1) dX8_goesWell_9 (by decide) ?_
    refine V_goto 14 dX8_goesWell_10 rfl ?_
    exact V_zret dX8_goesWell_14 rfl (by decide) (by decide) (by decide) ⟨_, rfl, rfl, rfl, h⟩
def wX8_in (a0 : Int32) (a1 : Int32) (a2 : Int32) (I : QI) (post : Int32 → Prop) : Prop := ((a0 < a1 → post 0) ∧ (¬ a0 < a1 → ((a2 < a0 → post 0) ∧ (¬ a2 < a0 → post 1))))
set_option maxRecDepth 100000 in
set_option maxHeartbeats 4000000 in
theorem s_mX8_in {X : QX} {S : QS} {a0 : Int32} {a1 : Int32} {a2 : Int32} {I : QI} {J : QJ} {post : Int32 → Prop} (hS : Sh S) (h : wX8_in a0 a1 a2 I post) : CX X mX8_in 0 0 0 [.int a0, .int a1, .int a2] S I J (q_Pi S (fun r I2 J2 => I = I2 ∧ J = J2 ∧ post r)) := by
  refine CX.of (lo := [(0, .int a0), (1, .int a1), (2, .int a2)]) ok_mX8_in rfl (Nat.le_of_ble_eq_true rfl) rfl ?_
  replace h : ((a0 < a1 → post 0) ∧ (¬ a0 < a1 → ((a2 < a0 → post 0) ∧ (¬ a2 < a0 → post 1)))) := h
  refine V_iload_n dX8_in_0 rfl rfl ?_
  refine V_iload_n dX8_in_1 rfl rfl ?_
  refine V_icmp_lt 14 dX8_in_2 rfl (fun hc => ?_) (fun hc => ?_)
  · replace h := h.1 hc
    refine V_iconst (v := 0) dX8_in_14 (by decide) ?_
    exact V_zret dX8_in_15 rfl (by decide) (by decide) (by decide) ⟨_, rfl, rfl, rfl, rfl, h⟩
  · replace h := h.2 hc
    refine V_iload_n dX8_in_5 rfl rfl ?_
    refine V_iload_n dX8_in_6 rfl rfl ?_
    refine V_icmp_gt 14 dX8_in_7 rfl (fun hc => ?_) (fun hc => ?_)
    · replace h := h.1 hc
      refine V_iconst (v := 0) dX8_in_14 (by decide) ?_
      exact V_zret dX8_in_15 rfl (by decide) (by decide) (by decide) ⟨_, rfl, rfl, rfl, rfl, h⟩
    · replace h := h.2 hc
      refine V_iconst (v := 1) dX8_in_10 (by decide) ?_
      refine V_goto 15 dX8_in_11 rfl ?_
      exact V_zret dX8_in_15 rfl (by decide) (by decide) (by decide) ⟨_, rfl, rfl, rfl, rfl, h⟩
def wX8_table (a1 : Int32) (I : QI) (post : Int32 → QI → Prop) : Prop := (wX8_in a1 1 3 I (fun r1 => ((¬ r1 = 0 → ((¬ (I 51 1) = 4 → (wX8_goesWell 0 I (fun r3 I2 => ((¬ r3 = 0 → (vp_in (I2 51 1) 4 ∧ (∀ I4 : QI, I4 = q_u2 I2 52 ((I2 51 1)).toNatClampNeg a1 → (∀ I5 : QI, I5 = q_u2 I4 51 1 ((I4 51 1) + 1) → post ((I5 51 1) - 1) I5)))) ∧ (r3 = 0 → post 0 I2))))) ∧ ((I 51 1) = 4 → (wX8_goesWell 2 I (fun r7 I6 => ((¬ r7 = 0 → (vp_in (I6 51 1) 4 ∧ (∀ I8 : QI, I8 = q_u2 I6 52 ((I6 51 1)).toNatClampNeg a1 → (∀ I9 : QI, I9 = q_u2 I8 51 1 ((I8 51 1) + 1) → post ((I9 51 1) - 1) I9)))) ∧ (r7 = 0 → post 0 I6))))))) ∧ (r1 = 0 → (wX8_goesWell 1 I (fun r11 I10 => ((¬ r11 = 0 → (vp_in (I10 51 1) 4 ∧ (∀ I12 : QI, I12 = q_u2 I10 52 ((I10 51 1)).toNatClampNeg a1 → (∀ I13 : QI, I13 = q_u2 I12 51 1 ((I12 51 1) + 1) → post ((I13 51 1) - 1) I13)))) ∧ (r11 = 0 → post 0 I10))))))))
set_option maxRecDepth 100000 in
set_option maxHeartbeats 4000000 in
theorem s_mX8_table {X : QX} {S : QS} {a1 : Int32} {I : QI} {J : QJ} {post : Int32 → QI → Prop} (hS : Sh S) (h : wX8_table a1 I post) : CX X mX8_table 1 0 0 [.ref 51, .int a1] S I J (q_Pi S (fun r I2 J2 => J = J2 ∧ post r I2)) := by
  refine CX.of (lo := [(0, .ref 51), (1, .int a1)]) ok_mX8_table rfl (Nat.le_of_ble_eq_true rfl) rfl ?_
  replace h : (wX8_in a1 1 3 I (fun r1 => ((¬ r1 = 0 → ((¬ (I 51 1) = 4 → (wX8_goesWell 0 I (fun r3 I2 => ((¬ r3 = 0 → (vp_in (I2 51 1) 4 ∧ (∀ I4 : QI, I4 = q_u2 I2 52 ((I2 51 1)).toNatClampNeg a1 → (∀ I5 : QI, I5 = q_u2 I4 51 1 ((I4 51 1) + 1) → post ((I5 51 1) - 1) I5)))) ∧ (r3 = 0 → post 0 I2))))) ∧ ((I 51 1) = 4 → (wX8_goesWell 2 I (fun r7 I6 => ((¬ r7 = 0 → (vp_in (I6 51 1) 4 ∧ (∀ I8 : QI, I8 = q_u2 I6 52 ((I6 51 1)).toNatClampNeg a1 → (∀ I9 : QI, I9 = q_u2 I8 51 1 ((I8 51 1) + 1) → post ((I9 51 1) - 1) I9)))) ∧ (r7 = 0 → post 0 I6))))))) ∧ (r1 = 0 → (wX8_goesWell 1 I (fun r11 I10 => ((¬ r11 = 0 → (vp_in (I10 51 1) 4 ∧ (∀ I12 : QI, I12 = q_u2 I10 52 ((I10 51 1)).toNatClampNeg a1 → (∀ I13 : QI, I13 = q_u2 I12 51 1 ((I12 51 1) + 1) → post ((I13 51 1) - 1) I13)))) ∧ (r11 = 0 → post 0 I10)))))))) := h
  refine V_aload_n dX8_table_0 rfl rfl ?_
  refine V_iload_n dX8_table_1 rfl rfl ?_
  refine V_iconst (v := 1) dX8_table_2 (by decide) ?_
  refine V_iconst (v := 3) dX8_table_3 (by decide) ?_
  refine V_callSi (st := [.ref 51]) [.int a1, .int 1, .int 3] dX8_table_4 ok_mX8_in rfl ml_RX8_104 st_mX8_in (Nat.le_of_ble_eq_true rfl) (by decide) (by decide) (by decide) (s_mX8_in hS h) (fun r1 I9 J9 h => ?_)
  obtain ⟨rfl, rfl, h⟩ := h
  refine V_if_ne 14 dX8_table_7 rfl (fun hc => ?_) (fun hc => ?_)
  · replace h := h.1 hc
    refine V_aload_n dX8_table_14 rfl rfl ?_
    refine V_geti dX8_table_15 fl_RX8_101 (hS.n 51 rfl) (hS.k 51 8 rfl) rfl ?_
    refine V_iconst (v := 4) dX8_table_18 (by decide) ?_
    refine V_icmp_ne 26 dX8_table_19 rfl (fun hc => ?_) (fun hc => ?_)
    · replace h := h.1 hc
      refine V_iconst (v := 0) dX8_table_26 (by decide) ?_
      refine V_callVi (st := []) [.int 0] dX8_table_27 ok_mX8_goesWell rfl ml_RX8_112 in_mX8_goesWell se_mX8_goesWell (hS.n 51 rfl) (hS.k 51 8 rfl) (by decide) rfl (Nat.le_of_ble_eq_true rfl) (by decide) (by decide) (by decide) (s_mX8_goesWell hS h) (fun r3 I2 J9 h => ?_)
      obtain ⟨rfl, h⟩ := h
      refine V_if_ne 35 dX8_table_30 rfl (fun hc => ?_) (fun hc => ?_)
      · replace h := h.1 hc
        refine V_aload_n dX8_table_35 rfl rfl ?_
        refine V_getr dX8_table_36 fl_RX8_9 (hS.n 51 rfl) (hS.k 51 8 rfl) rfl (hS.r 51 2 52 rfl) ?_
        refine V_aload_n dX8_table_39 rfl rfl ?_
        refine V_geti dX8_table_40 fl_RX8_101 (hS.n 51 rfl) (hS.k 51 8 rfl) rfl ?_
        refine V_iload_n dX8_table_43 rfl rfl ?_
        obtain ⟨hb, h⟩ := h
        refine V_iast dX8_table_44 (hS.n 52 rfl) (hS.k 52 9 rfl) (by rw [(hS.z 52 4 rfl)]; exact hb) ?_
        refine V_memI (fun I4 e_I4 => ?_)
        replace h := h I4 e_I4
        refine V_aload_n dX8_table_45 rfl rfl ?_
        refine V_dup dX8_table_46 rfl ?_
        refine V_geti dX8_table_47 fl_RX8_101 (hS.n 51 rfl) (hS.k 51 8 rfl) rfl ?_
        refine V_iconst (v := 1) dX8_table_50 (by decide) ?_
        refine V_iadd dX8_table_51 ?_
        refine V_puti dX8_table_52 fl_RX8_101 rfl (hS.n 51 rfl) (hS.k 51 8 rfl) rfl rfl rfl ?_
        refine V_memI (fun I5 e_I5 => ?_)
        replace h := h I5 e_I5
        refine V_aload_n dX8_table_55 rfl rfl ?_
        refine V_geti dX8_table_56 fl_RX8_101 (hS.n 51 rfl) (hS.k 51 8 rfl) rfl ?_
        refine V_iconst (v := 1) dX8_table_59 (by decide) ?_
        refine V_isub dX8_table_60 ?_
        exact V_iret dX8_table_61 rfl (by decide) (by decide) ⟨_, rfl, rfl, rfl, h⟩
      · replace h := h.2 hc
        refine V_iconst (v := 0) dX8_table_33 (by decide) ?_
        exact V_iret dX8_table_34 rfl (by decide) (by decide) ⟨_, rfl, rfl, rfl, h⟩
    · replace h := h.2 hc
      refine V_iconst (v := 2) dX8_table_22 (by decide) ?_
      refine V_goto 27 dX8_table_23 rfl ?_
      refine V_callVi (st := []) [.int 2] dX8_table_27 ok_mX8_goesWell rfl ml_RX8_112 in_mX8_goesWell se_mX8_goesWell (hS.n 51 rfl) (hS.k 51 8 rfl) (by decide) rfl (Nat.le_of_ble_eq_true rfl) (by decide) (by decide) (by decide) (s_mX8_goesWell hS h) (fun r7 I6 J9 h => ?_)
      obtain ⟨rfl, h⟩ := h
      refine V_if_ne 35 dX8_table_30 rfl (fun hc => ?_) (fun hc => ?_)
      · replace h := h.1 hc
        refine V_aload_n dX8_table_35 rfl rfl ?_
        refine V_getr dX8_table_36 fl_RX8_9 (hS.n 51 rfl) (hS.k 51 8 rfl) rfl (hS.r 51 2 52 rfl) ?_
        refine V_aload_n dX8_table_39 rfl rfl ?_
        refine V_geti dX8_table_40 fl_RX8_101 (hS.n 51 rfl) (hS.k 51 8 rfl) rfl ?_
        refine V_iload_n dX8_table_43 rfl rfl ?_
        obtain ⟨hb, h⟩ := h
        refine V_iast dX8_table_44 (hS.n 52 rfl) (hS.k 52 9 rfl) (by rw [(hS.z 52 4 rfl)]; exact hb) ?_
        refine V_memI (fun I8 e_I8 => ?_)
        replace h := h I8 e_I8
        refine V_aload_n dX8_table_45 rfl rfl ?_
        refine V_dup dX8_table_46 rfl ?_
        refine V_geti dX8_table_47 fl_RX8_101 (hS.n 51 rfl) (hS.k 51 8 rfl) rfl ?_
        refine V_iconst (v := 1) dX8_table_50 (by decide) ?_
        refine V_iadd dX8_table_51 ?_
        refine V_puti dX8_table_52 fl_RX8_101 rfl (hS.n 51 rfl) (hS.k 51 8 rfl) rfl rfl rfl ?_
        refine V_memI (fun I9 e_I9 => ?_)
        replace h := h I9 e_I9
        refine V_aload_n dX8_table_55 rfl rfl ?_
        refine V_geti dX8_table_56 fl_RX8_101 (hS.n 51 rfl) (hS.k 51 8 rfl) rfl ?_
        refine V_iconst (v := 1) dX8_table_59 (by decide) ?_
        refine V_isub dX8_table_60 ?_
        exact V_iret dX8_table_61 rfl (by decide) (by decide) ⟨_, rfl, rfl, rfl, h⟩
      · replace h := h.2 hc
        refine V_iconst (v := 0) dX8_table_33 (by decide) ?_
        exact V_iret dX8_table_34 rfl (by decide) (by decide) ⟨_, rfl, rfl, rfl, h⟩
  · replace h := h.2 hc
    refine V_iconst (v := 1) dX8_table_10 (by decide) ?_
    refine V_goto 27 dX8_table_11 rfl ?_
    refine V_callVi (st := []) [.int 1] dX8_table_27 ok_mX8_goesWell rfl ml_RX8_112 in_mX8_goesWell se_mX8_goesWell (hS.n 51 rfl) (hS.k 51 8 rfl) (by decide) rfl (Nat.le_of_ble_eq_true rfl) (by decide) (by decide) (by decide) (s_mX8_goesWell hS h) (fun r11 I10 J9 h => ?_)
    obtain ⟨rfl, h⟩ := h
    refine V_if_ne 35 dX8_table_30 rfl (fun hc => ?_) (fun hc => ?_)
    · replace h := h.1 hc
      refine V_aload_n dX8_table_35 rfl rfl ?_
      refine V_getr dX8_table_36 fl_RX8_9 (hS.n 51 rfl) (hS.k 51 8 rfl) rfl (hS.r 51 2 52 rfl) ?_
      refine V_aload_n dX8_table_39 rfl rfl ?_
      refine V_geti dX8_table_40 fl_RX8_101 (hS.n 51 rfl) (hS.k 51 8 rfl) rfl ?_
      refine V_iload_n dX8_table_43 rfl rfl ?_
      obtain ⟨hb, h⟩ := h
      refine V_iast dX8_table_44 (hS.n 52 rfl) (hS.k 52 9 rfl) (by rw [(hS.z 52 4 rfl)]; exact hb) ?_
      refine V_memI (fun I12 e_I12 => ?_)
      replace h := h I12 e_I12
      refine V_aload_n dX8_table_45 rfl rfl ?_
      refine V_dup dX8_table_46 rfl ?_
      refine V_geti dX8_table_47 fl_RX8_101 (hS.n 51 rfl) (hS.k 51 8 rfl) rfl ?_
      refine V_iconst (v := 1) dX8_table_50 (by decide) ?_
      refine V_iadd dX8_table_51 ?_
      refine V_puti dX8_table_52 fl_RX8_101 rfl (hS.n 51 rfl) (hS.k 51 8 rfl) rfl rfl rfl ?_
      refine V_memI (fun I13 e_I13 => ?_)
      replace h := h I13 e_I13
      refine V_aload_n dX8_table_55 rfl rfl ?_
      refine V_geti dX8_table_56 fl_RX8_101 (hS.n 51 rfl) (hS.k 51 8 rfl) rfl ?_
      refine V_iconst (v := 1) dX8_table_59 (by decide) ?_
      refine V_isub dX8_table_60 ?_
      exact V_iret dX8_table_61 rfl (by decide) (by decide) ⟨_, rfl, rfl, rfl, h⟩
    · replace h := h.2 hc
      refine V_iconst (v := 0) dX8_table_33 (by decide) ?_
      exact V_iret dX8_table_34 rfl (by decide) (by decide) ⟨_, rfl, rfl, rfl, h⟩
def wX8_isTable (a1 : Int32) (I : QI) (post : Int32 → Prop) : Prop := (wX8_in a1 0 ((I 51 1) - 1) I (fun r1 => ((r1 = 0 ∨ r1 = 1) ∧ post r1)))
set_option maxRecDepth 100000 in
set_option maxHeartbeats 4000000 in
theorem s_mX8_isTable {X : QX} {S : QS} {a1 : Int32} {I : QI} {J : QJ} {post : Int32 → Prop} (hS : Sh S) (h : wX8_isTable a1 I post) : CX X mX8_isTable 1 0 0 [.ref 51, .int a1] S I J (q_Pi S (fun r I2 J2 => I = I2 ∧ J = J2 ∧ post r)) := by
  refine CX.of (lo := [(0, .ref 51), (1, .int a1)]) ok_mX8_isTable rfl (Nat.le_of_ble_eq_true rfl) rfl ?_
  replace h : (wX8_in a1 0 ((I 51 1) - 1) I (fun r1 => ((r1 = 0 ∨ r1 = 1) ∧ post r1))) := h
  refine V_iload_n dX8_isTable_0 rfl rfl ?_
  refine V_iconst (v := 0) dX8_isTable_1 (by decide) ?_
  refine V_aload_n dX8_isTable_2 rfl rfl ?_
  refine V_geti dX8_isTable_3 fl_RX8_101 (hS.n 51 rfl) (hS.k 51 8 rfl) rfl ?_
  refine V_iconst (v := 1) dX8_isTable_6 (by decide) ?_
  refine V_isub dX8_isTable_7 ?_
  refine V_callSi (st := []) [.int a1, .int 0, .int ((I 51 1) - 1)] dX8_isTable_8 ok_mX8_in rfl ml_RX8_104 st_mX8_in (Nat.le_of_ble_eq_true rfl) (by decide) (by decide) (by decide) (s_mX8_in hS h) (fun r1 I9 J9 h => ?_)
  obtain ⟨rfl, rfl, h⟩ := h
  obtain ⟨hz, h⟩ := h
  exact V_zret dX8_isTable_11 rfl (q_nz hz) (by decide) (by decide) ⟨_, rfl, rfl, rfl, rfl, h⟩
def wX8_isValue (a0 : Int32) (I : QI) (post : Int32 → Prop) : Prop := ((a0 = (-1000) → post 1) ∧ (¬ a0 = (-1000) → (wX8_in a0 (-99) 99 I (fun r1 => ((r1 = 0 → post 0) ∧ (¬ r1 = 0 → post 1))))))
set_option maxRecDepth 100000 in
set_option maxHeartbeats 4000000 in
theorem s_mX8_isValue {X : QX} {S : QS} {a0 : Int32} {I : QI} {J : QJ} {post : Int32 → Prop} (hS : Sh S) (h : wX8_isValue a0 I post) : CX X mX8_isValue 1 0 0 [.int a0] S I J (q_Pi S (fun r I2 J2 => I = I2 ∧ J = J2 ∧ post r)) := by
  refine CX.of (lo := [(0, .int a0)]) ok_mX8_isValue rfl (Nat.le_of_ble_eq_true rfl) rfl ?_
  replace h : ((a0 = (-1000) → post 1) ∧ (¬ a0 = (-1000) → (wX8_in a0 (-99) 99 I (fun r1 => ((r1 = 0 → post 0) ∧ (¬ r1 = 0 → post 1)))))) := h
  refine V_iload_n dX8_isValue_0 rfl rfl ?_
  refine V_sipush (v := (-1000)) dX8_isValue_1 (by decide) ?_
  refine V_icmp_eq 18 dX8_isValue_4 rfl (fun hc => ?_) (fun hc => ?_)
  · replace h := h.1 hc
    refine V_iconst (v := 1) dX8_isValue_18 (by decide) ?_
    refine V_goto 23 dX8_isValue_19 rfl ?_
    exact V_zret dX8_isValue_23 rfl (by decide) (by decide) (by decide) ⟨_, rfl, rfl, rfl, rfl, h⟩
  · replace h := h.2 hc
    refine V_iload_n dX8_isValue_7 rfl rfl ?_
    refine V_bipush (v := (-99)) dX8_isValue_8 (by decide) ?_
    refine V_bipush (v := 99) dX8_isValue_10 (by decide) ?_
    refine V_callSi (st := []) [.int a0, .int (-99), .int 99] dX8_isValue_12 ok_mX8_in rfl ml_RX8_104 st_mX8_in (Nat.le_of_ble_eq_true rfl) (by decide) (by decide) (by decide) (s_mX8_in hS h) (fun r1 I9 J9 h => ?_)
    obtain ⟨rfl, rfl, h⟩ := h
    refine V_if_eq 22 dX8_isValue_15 rfl (fun hc => ?_) (fun hc => ?_)
    · replace h := h.1 hc
      refine V_iconst (v := 0) dX8_isValue_22 (by decide) ?_
      exact V_zret dX8_isValue_23 rfl (by decide) (by decide) (by decide) ⟨_, rfl, rfl, rfl, rfl, h⟩
    · replace h := h.2 hc
      refine V_iconst (v := 1) dX8_isValue_18 (by decide) ?_
      refine V_goto 23 dX8_isValue_19 rfl ?_
      exact V_zret dX8_isValue_23 rfl (by decide) (by decide) (by decide) ⟨_, rfl, rfl, rfl, rfl, h⟩
def wX8_add (a1 : Int32) (a2 : Int32) (a3 : Int32) (a4 : Int32) (I : QI) (post : Int32 → QI → Prop) : Prop := (wX8_isTable a1 I (fun r1 => ((r1 = 0 → ((¬ r1 = 0 → (wX8_goesWell 2 I (fun r3 I2 => ((¬ r3 = 0 → (vp_in a1 4 ∧ (∀ v4 : Int32, v4 = (((10 * a1) + (I2 53 (a1).toNatClampNeg)) * 3) → (vp_in v4 120 ∧ (∀ I5 : QI, I5 = q_u2 I2 54 (v4).toNatClampNeg a2 → (vp_in (v4 + 1) 120 ∧ (∀ I6 : QI, I6 = q_u2 I5 54 ((v4 + 1)).toNatClampNeg a3 → (vp_in (v4 + 2) 120 ∧ (∀ I7 : QI, I7 = q_u2 I6 54 ((v4 + 2)).toNatClampNeg a4 → (vp_in a1 4 ∧ (vp_in a1 4 ∧ (∀ I8 : QI, I8 = q_u2 I7 53 (a1).toNatClampNeg ((I7 53 (a1).toNatClampNeg) + 1) → (vp_in a1 4 ∧ post (I8 53 (a1).toNatClampNeg) I8))))))))))))) ∧ (r3 = 0 → post 0 I2))))) ∧ (r1 = 0 → (wX8_goesWell 1 I (fun r10 I9 => ((¬ r10 = 0 → (vp_in a1 4 ∧ (∀ v11 : Int32, v11 = (((10 * a1) + (I9 53 (a1).toNatClampNeg)) * 3) → (vp_in v11 120 ∧ (∀ I12 : QI, I12 = q_u2 I9 54 (v11).toNatClampNeg a2 → (vp_in (v11 + 1) 120 ∧ (∀ I13 : QI, I13 = q_u2 I12 54 ((v11 + 1)).toNatClampNeg a3 → (vp_in (v11 + 2) 120 ∧ (∀ I14 : QI, I14 = q_u2 I13 54 ((v11 + 2)).toNatClampNeg a4 → (vp_in a1 4 ∧ (vp_in a1 4 ∧ (∀ I15 : QI, I15 = q_u2 I14 53 (a1).toNatClampNeg ((I14 53 (a1).toNatClampNeg) + 1) → (vp_in a1 4 ∧ post (I15 53 (a1).toNatClampNeg) I15))))))))))))) ∧ (r10 = 0 → post 0 I9))))))) ∧ (¬ r1 = 0 → (wX8_isValue a2 I (fun r16 => ((r16 = 0 → ((¬ r1 = 0 → (wX8_goesWell 2 I (fun r18 I17 => ((¬ r18 = 0 → (vp_in a1 4 ∧ (∀ v19 : Int32, v19 = (((10 * a1) + (I17 53 (a1).toNatClampNeg)) * 3) → (vp_in v19 120 ∧ (∀ I20 : QI, I20 = q_u2 I17 54 (v19).toNatClampNeg a2 → (vp_in (v19 + 1) 120 ∧ (∀ I21 : QI, I21 = q_u2 I20 54 ((v19 + 1)).toNatClampNeg a3 → (vp_in (v19 + 2) 120 ∧ (∀ I22 : QI, I22 = q_u2 I21 54 ((v19 + 2)).toNatClampNeg a4 → (vp_in a1 4 ∧ (vp_in a1 4 ∧ (∀ I23 : QI, I23 = q_u2 I22 53 (a1).toNatClampNeg ((I22 53 (a1).toNatClampNeg) + 1) → (vp_in a1 4 ∧ post (I23 53 (a1).toNatClampNeg) I23))))))))))))) ∧ (r18 = 0 → post 0 I17))))) ∧ (r1 = 0 → (wX8_goesWell 1 I (fun r25 I24 => ((¬ r25 = 0 → (vp_in a1 4 ∧ (∀ v26 : Int32, v26 = (((10 * a1) + (I24 53 (a1).toNatClampNeg)) * 3) → (vp_in v26 120 ∧ (∀ I27 : QI, I27 = q_u2 I24 54 (v26).toNatClampNeg a2 → (vp_in (v26 + 1) 120 ∧ (∀ I28 : QI, I28 = q_u2 I27 54 ((v26 + 1)).toNatClampNeg a3 → (vp_in (v26 + 2) 120 ∧ (∀ I29 : QI, I29 = q_u2 I28 54 ((v26 + 2)).toNatClampNeg a4 → (vp_in a1 4 ∧ (vp_in a1 4 ∧ (∀ I30 : QI, I30 = q_u2 I29 53 (a1).toNatClampNeg ((I29 53 (a1).toNatClampNeg) + 1) → (vp_in a1 4 ∧ post (I30 53 (a1).toNatClampNeg) I30))))))))))))) ∧ (r25 = 0 → post 0 I24))))))) ∧ (¬ r16 = 0 → (vp_in a1 4 ∧ (((I 52 (a1).toNatClampNeg) ≤ 1 → ((¬ a3 = 0 → ((¬ r1 = 0 → (wX8_goesWell 2 I (fun r32 I31 => ((¬ r32 = 0 → (vp_in a1 4 ∧ (∀ v33 : Int32, v33 = (((10 * a1) + (I31 53 (a1).toNatClampNeg)) * 3) → (vp_in v33 120 ∧ (∀ I34 : QI, I34 = q_u2 I31 54 (v33).toNatClampNeg a2 → (vp_in (v33 + 1) 120 ∧ (∀ I35 : QI, I35 = q_u2 I34 54 ((v33 + 1)).toNatClampNeg a3 → (vp_in (v33 + 2) 120 ∧ (∀ I36 : QI, I36 = q_u2 I35 54 ((v33 + 2)).toNatClampNeg a4 → (vp_in a1 4 ∧ (vp_in a1 4 ∧ (∀ I37 : QI, I37 = q_u2 I36 53 (a1).toNatClampNeg ((I36 53 (a1).toNatClampNeg) + 1) → (vp_in a1 4 ∧ post (I37 53 (a1).toNatClampNeg) I37))))))))))))) ∧ (r32 = 0 → post 0 I31))))) ∧ (r1 = 0 → (wX8_goesWell 1 I (fun r39 I38 => ((¬ r39 = 0 → (vp_in a1 4 ∧ (∀ v40 : Int32, v40 = (((10 * a1) + (I38 53 (a1).toNatClampNeg)) * 3) → (vp_in v40 120 ∧ (∀ I41 : QI, I41 = q_u2 I38 54 (v40).toNatClampNeg a2 → (vp_in (v40 + 1) 120 ∧ (∀ I42 : QI, I42 = q_u2 I41 54 ((v40 + 1)).toNatClampNeg a3 → (vp_in (v40 + 2) 120 ∧ (∀ I43 : QI, I43 = q_u2 I42 54 ((v40 + 2)).toNatClampNeg a4 → (vp_in a1 4 ∧ (vp_in a1 4 ∧ (∀ I44 : QI, I44 = q_u2 I43 53 (a1).toNatClampNeg ((I43 53 (a1).toNatClampNeg) + 1) → (vp_in a1 4 ∧ post (I44 53 (a1).toNatClampNeg) I44))))))))))))) ∧ (r39 = 0 → post 0 I38))))))) ∧ (a3 = 0 → (vp_in a1 4 ∧ (((I 52 (a1).toNatClampNeg) ≤ 2 → ((¬ a4 = 0 → ((¬ r1 = 0 → (wX8_goesWell 2 I (fun r46 I45 => ((¬ r46 = 0 → (vp_in a1 4 ∧ (∀ v47 : Int32, v47 = (((10 * a1) + (I45 53 (a1).toNatClampNeg)) * 3) → (vp_in v47 120 ∧ (∀ I48 : QI, I48 = q_u2 I45 54 (v47).toNatClampNeg a2 → (vp_in (v47 + 1) 120 ∧ (∀ I49 : QI, I49 = q_u2 I48 54 ((v47 + 1)).toNatClampNeg a3 → (vp_in (v47 + 2) 120 ∧ (∀ I50 : QI, I50 = q_u2 I49 54 ((v47 + 2)).toNatClampNeg a4 → (vp_in a1 4 ∧ (vp_in a1 4 ∧ (∀ I51 : QI, I51 = q_u2 I50 53 (a1).toNatClampNeg ((I50 53 (a1).toNatClampNeg) + 1) → (vp_in a1 4 ∧ post (I51 53 (a1).toNatClampNeg) I51))))))))))))) ∧ (r46 = 0 → post 0 I45))))) ∧ (r1 = 0 → (wX8_goesWell 1 I (fun r53 I52 => ((¬ r53 = 0 → (vp_in a1 4 ∧ (∀ v54 : Int32, v54 = (((10 * a1) + (I52 53 (a1).toNatClampNeg)) * 3) → (vp_in v54 120 ∧ (∀ I55 : QI, I55 = q_u2 I52 54 (v54).toNatClampNeg a2 → (vp_in (v54 + 1) 120 ∧ (∀ I56 : QI, I56 = q_u2 I55 54 ((v54 + 1)).toNatClampNeg a3 → (vp_in (v54 + 2) 120 ∧ (∀ I57 : QI, I57 = q_u2 I56 54 ((v54 + 2)).toNatClampNeg a4 → (vp_in a1 4 ∧ (vp_in a1 4 ∧ (∀ I58 : QI, I58 = q_u2 I57 53 (a1).toNatClampNeg ((I57 53 (a1).toNatClampNeg) + 1) → (vp_in a1 4 ∧ post (I58 53 (a1).toNatClampNeg) I58))))))))))))) ∧ (r53 = 0 → post 0 I52))))))) ∧ (a4 = 0 → ((¬ r1 = 0 → (vp_in a1 4 ∧ ((¬ (I 53 (a1).toNatClampNeg) = 10 → (wX8_goesWell 0 I (fun r60 I59 => ((¬ r60 = 0 → (vp_in a1 4 ∧ (∀ v61 : Int32, v61 = (((10 * a1) + (I59 53 (a1).toNatClampNeg)) * 3) → (vp_in v61 120 ∧ (∀ I62 : QI, I62 = q_u2 I59 54 (v61).toNatClampNeg a2 → (vp_in (v61 + 1) 120 ∧ (∀ I63 : QI, I63 = q_u2 I62 54 ((v61 + 1)).toNatClampNeg a3 → (vp_in (v61 + 2) 120 ∧ (∀ I64 : QI, I64 = q_u2 I63 54 ((v61 + 2)).toNatClampNeg a4 → (vp_in a1 4 ∧ (vp_in a1 4 ∧ (∀ I65 : QI, I65 = q_u2 I64 53 (a1).toNatClampNeg ((I64 53 (a1).toNatClampNeg) + 1) → (vp_in a1 4 ∧ post (I65 53 (a1).toNatClampNeg) I65))))))))))))) ∧ (r60 = 0 → post 0 I59))))) ∧ ((I 53 (a1).toNatClampNeg) = 10 → (wX8_goesWell 3 I (fun r67 I66 => ((¬ r67 = 0 → (vp_in a1 4 ∧ (∀ v68 : Int32, v68 = (((10 * a1) + (I66 53 (a1).toNatClampNeg)) * 3) → (vp_in v68 120 ∧ (∀ I69 : QI, I69 = q_u2 I66 54 (v68).toNatClampNeg a2 → (vp_in (v68 + 1) 120 ∧ (∀ I70 : QI, I70 = q_u2 I69 54 ((v68 + 1)).toNatClampNeg a3 → (vp_in (v68 + 2) 120 ∧ (∀ I71 : QI, I71 = q_u2 I70 54 ((v68 + 2)).toNatClampNeg a4 → (vp_in a1 4 ∧ (vp_in a1 4 ∧ (∀ I72 : QI, I72 = q_u2 I71 53 (a1).toNatClampNeg ((I71 53 (a1).toNatClampNeg) + 1) → (vp_in a1 4 ∧ post (I72 53 (a1).toNatClampNeg) I72))))))))))))) ∧ (r67 = 0 → post 0 I66)))))))) ∧ (r1 = 0 → (wX8_goesWell 1 I (fun r74 I73 => ((¬ r74 = 0 → (vp_in a1 4 ∧ (∀ v75 : Int32, v75 = (((10 * a1) + (I73 53 (a1).toNatClampNeg)) * 3) → (vp_in v75 120 ∧ (∀ I76 : QI, I76 = q_u2 I73 54 (v75).toNatClampNeg a2 → (vp_in (v75 + 1) 120 ∧ (∀ I77 : QI, I77 = q_u2 I76 54 ((v75 + 1)).toNatClampNeg a3 → (vp_in (v75 + 2) 120 ∧ (∀ I78 : QI, I78 = q_u2 I77 54 ((v75 + 2)).toNatClampNeg a4 → (vp_in a1 4 ∧ (vp_in a1 4 ∧ (∀ I79 : QI, I79 = q_u2 I78 53 (a1).toNatClampNeg ((I78 53 (a1).toNatClampNeg) + 1) → (vp_in a1 4 ∧ post (I79 53 (a1).toNatClampNeg) I79))))))))))))) ∧ (r74 = 0 → post 0 I73))))))))) ∧ (¬ (I 52 (a1).toNatClampNeg) ≤ 2 → (wX8_isValue a4 I (fun r80 => ((r80 = 0 → ((¬ r1 = 0 → (wX8_goesWell 2 I (fun r82 I81 => ((¬ r82 = 0 → (vp_in a1 4 ∧ (∀ v83 : Int32, v83 = (((10 * a1) + (I81 53 (a1).toNatClampNeg)) * 3) → (vp_in v83 120 ∧ (∀ I84 : QI, I84 = q_u2 I81 54 (v83).toNatClampNeg a2 → (vp_in (v83 + 1) 120 ∧ (∀ I85 : QI, I85 = q_u2 I84 54 ((v83 + 1)).toNatClampNeg a3 → (vp_in (v83 + 2) 120 ∧ (∀ I86 : QI, I86 = q_u2 I85 54 ((v83 + 2)).toNatClampNeg a4 → (vp_in a1 4 ∧ (vp_in a1 4 ∧ (∀ I87 : QI, I87 = q_u2 I86 53 (a1).toNatClampNeg ((I86 53 (a1).toNatClampNeg) + 1) → (vp_in a1 4 ∧ post (I87 53 (a1).toNatClampNeg) I87))))))))))))) ∧ (r82 = 0 → post 0 I81))))) ∧ (r1 = 0 → (wX8_goesWell 1 I (fun r89 I88 => ((¬ r89 = 0 → (vp_in a1 4 ∧ (∀ v90 : Int32, v90 = (((10 * a1) + (I88 53 (a1).toNatClampNeg)) * 3) → (vp_in v90 120 ∧ (∀ I91 : QI, I91 = q_u2 I88 54 (v90).toNatClampNeg a2 → (vp_in (v90 + 1) 120 ∧ (∀ I92 : QI, I92 = q_u2 I91 54 ((v90 + 1)).toNatClampNeg a3 → (vp_in (v90 + 2) 120 ∧ (∀ I93 : QI, I93 = q_u2 I92 54 ((v90 + 2)).toNatClampNeg a4 → (vp_in a1 4 ∧ (vp_in a1 4 ∧ (∀ I94 : QI, I94 = q_u2 I93 53 (a1).toNatClampNeg ((I93 53 (a1).toNatClampNeg) + 1) → (vp_in a1 4 ∧ post (I94 53 (a1).toNatClampNeg) I94))))))))))))) ∧ (r89 = 0 → post 0 I88))))))) ∧ (¬ r80 = 0 → ((¬ r1 = 0 → (vp_in a1 4 ∧ ((¬ (I 53 (a1).toNatClampNeg) = 10 → (wX8_goesWell 0 I (fun r96 I95 => ((¬ r96 = 0 → (vp_in a1 4 ∧ (∀ v97 : Int32, v97 = (((10 * a1) + (I95 53 (a1).toNatClampNeg)) * 3) → (vp_in v97 120 ∧ (∀ I98 : QI, I98 = q_u2 I95 54 (v97).toNatClampNeg a2 → (vp_in (v97 + 1) 120 ∧ (∀ I99 : QI, I99 = q_u2 I98 54 ((v97 + 1)).toNatClampNeg a3 → (vp_in (v97 + 2) 120 ∧ (∀ I100 : QI, I100 = q_u2 I99 54 ((v97 + 2)).toNatClampNeg a4 → (vp_in a1 4 ∧ (vp_in a1 4 ∧ (∀ I101 : QI, I101 = q_u2 I100 53 (a1).toNatClampNeg ((I100 53 (a1).toNatClampNeg) + 1) → (vp_in a1 4 ∧ post (I101 53 (a1).toNatClampNeg) I101))))))))))))) ∧ (r96 = 0 → post 0 I95))))) ∧ ((I 53 (a1).toNatClampNeg) = 10 → (wX8_goesWell 3 I (fun r103 I102 => ((¬ r103 = 0 → (vp_in a1 4 ∧ (∀ v104 : Int32, v104 = (((10 * a1) + (I102 53 (a1).toNatClampNeg)) * 3) → (vp_in v104 120 ∧ (∀ I105 : QI, I105 = q_u2 I102 54 (v104).toNatClampNeg a2 → (vp_in (v104 + 1) 120 ∧ (∀ I106 : QI, I106 = q_u2 I105 54 ((v104 + 1)).toNatClampNeg a3 → (vp_in (v104 + 2) 120 ∧ (∀ I107 : QI, I107 = q_u2 I106 54 ((v104 + 2)).toNatClampNeg a4 → (vp_in a1 4 ∧ (vp_in a1 4 ∧ (∀ I108 : QI, I108 = q_u2 I107 53 (a1).toNatClampNeg ((I107 53 (a1).toNatClampNeg) + 1) → (vp_in a1 4 ∧ post (I108 53 (a1).toNatClampNeg) I108))))))))))))) ∧ (r103 = 0 → post 0 I102)))))))) ∧ (r1 = 0 → (wX8_goesWell 1 I (fun r110 I109 => ((¬ r110 = 0 → (vp_in a1 4 ∧ (∀ v111 : Int32, v111 = (((10 * a1) + (I109 53 (a1).toNatClampNeg)) * 3) → (vp_in v111 120 ∧ (∀ I112 : QI, I112 = q_u2 I109 54 (v111).toNatClampNeg a2 → (vp_in (v111 + 1) 120 ∧ (∀ I113 : QI, I113 = q_u2 I112 54 ((v111 + 1)).toNatClampNeg a3 → (vp_in (v111 + 2) 120 ∧ (∀ I114 : QI, I114 = q_u2 I113 54 ((v111 + 2)).toNatClampNeg a4 → (vp_in a1 4 ∧ (vp_in a1 4 ∧ (∀ I115 : QI, I115 = q_u2 I114 53 (a1).toNatClampNeg ((I114 53 (a1).toNatClampNeg) + 1) → (vp_in a1 4 ∧ post (I115 53 (a1).toNatClampNeg) I115))))))))))))) ∧ (r110 = 0 → post 0 I109)))))))))))))))) ∧ (¬ (I 52 (a1).toNatClampNeg) ≤ 1 → (wX8_isValue a3 I (fun r116 => ((r116 = 0 → ((¬ r1 = 0 → (wX8_goesWell 2 I (fun r118 I117 => ((¬ r118 = 0 → (vp_in a1 4 ∧ (∀ v119 : Int32, v119 = (((10 * a1) + (I117 53 (a1).toNatClampNeg)) * 3) → (vp_in v119 120 ∧ (∀ I120 : QI, I120 = q_u2 I117 54 (v119).toNatClampNeg a2 → (vp_in (v119 + 1) 120 ∧ (∀ I121 : QI, I121 = q_u2 I120 54 ((v119 + 1)).toNatClampNeg a3 → (vp_in (v119 + 2) 120 ∧ (∀ I122 : QI, I122 = q_u2 I121 54 ((v119 + 2)).toNatClampNeg a4 → (vp_in a1 4 ∧ (vp_in a1 4 ∧ (∀ I123 : QI, I123 = q_u2 I122 53 (a1).toNatClampNeg ((I122 53 (a1).toNatClampNeg) + 1) → (vp_in a1 4 ∧ post (I123 53 (a1).toNatClampNeg) I123))))))))))))) ∧ (r118 = 0 → post 0 I117))))) ∧ (r1 = 0 → (wX8_goesWell 1 I (fun r125 I124 => ((¬ r125 = 0 → (vp_in a1 4 ∧ (∀ v126 : Int32, v126 = (((10 * a1) + (I124 53 (a1).toNatClampNeg)) * 3) → (vp_in v126 120 ∧ (∀ I127 : QI, I127 = q_u2 I124 54 (v126).toNatClampNeg a2 → (vp_in (v126 + 1) 120 ∧ (∀ I128 : QI, I128 = q_u2 I127 54 ((v126 + 1)).toNatClampNeg a3 → (vp_in (v126 + 2) 120 ∧ (∀ I129 : QI, I129 = q_u2 I128 54 ((v126 + 2)).toNatClampNeg a4 → (vp_in a1 4 ∧ (vp_in a1 4 ∧ (∀ I130 : QI, I130 = q_u2 I129 53 (a1).toNatClampNeg ((I129 53 (a1).toNatClampNeg) + 1) → (vp_in a1 4 ∧ post (I130 53 (a1).toNatClampNeg) I130))))))))))))) ∧ (r125 = 0 → post 0 I124))))))) ∧ (¬ r116 = 0 → (vp_in a1 4 ∧ (((I 52 (a1).toNatClampNeg) ≤ 2 → ((¬ a4 = 0 → ((¬ r1 = 0 → (wX8_goesWell 2 I (fun r132 I131 => ((¬ r132 = 0 → (vp_in a1 4 ∧ (∀ v133 : Int32, v133 = (((10 * a1) + (I131 53 (a1).toNatClampNeg)) * 3) → (vp_in v133 120 ∧ (∀ I134 : QI, I134 = q_u2 I131 54 (v133).toNatClampNeg a2 → (vp_in (v133 + 1) 120 ∧ (∀ I135 : QI, I135 = q_u2 I134 54 ((v133 + 1)).toNatClampNeg a3 → (vp_in (v133 + 2) 120 ∧ (∀ I136 : QI, I136 = q_u2 I135 54 ((v133 + 2)).toNatClampNeg a4 → (vp_in a1 4 ∧ (vp_in a1 4 ∧ (∀ I137 : QI, I137 = q_u2 I136 53 (a1).toNatClampNeg ((I136 53 (a1).toNatClampNeg) + 1) → (vp_in a1 4 ∧ post (I137 53 (a1).toNatClampNeg) I137))))))))))))) ∧ (r132 = 0 → post 0 I131))))) ∧ (r1 = 0 → (wX8_goesWell 1 I (fun r139 I138 => ((¬ r139 = 0 → (vp_in a1 4 ∧ (∀ v140 : Int32, v140 = (((10 * a1) + (I138 53 (a1).toNatClampNeg)) * 3) → (vp_in v140 120 ∧ (∀ I141 : QI, I141 = q_u2 I138 54 (v140).toNatClampNeg a2 → (vp_in (v140 + 1) 120 ∧ (∀ I142 : QI, I142 = q_u2 I141 54 ((v140 + 1)).toNatClampNeg a3 → (vp_in (v140 + 2) 120 ∧ (∀ I143 : QI, I143 = q_u2 I142 54 ((v140 + 2)).toNatClampNeg a4 → (vp_in a1 4 ∧ (vp_in a1 4 ∧ (∀ I144 : QI, I144 = q_u2 I143 53 (a1).toNatClampNeg ((I143 53 (a1).toNatClampNeg) + 1) → (vp_in a1 4 ∧ post (I144 53 (a1).toNatClampNeg) I144))))))))))))) ∧ (r139 = 0 → post 0 I138))))))) ∧ (a4 = 0 → ((¬ r1 = 0 → (vp_in a1 4 ∧ ((¬ (I 53 (a1).toNatClampNeg) = 10 → (wX8_goesWell 0 I (fun r146 I145 => ((¬ r146 = 0 → (vp_in a1 4 ∧ (∀ v147 : Int32, v147 = (((10 * a1) + (I145 53 (a1).toNatClampNeg)) * 3) → (vp_in v147 120 ∧ (∀ I148 : QI, I148 = q_u2 I145 54 (v147).toNatClampNeg a2 → (vp_in (v147 + 1) 120 ∧ (∀ I149 : QI, I149 = q_u2 I148 54 ((v147 + 1)).toNatClampNeg a3 → (vp_in (v147 + 2) 120 ∧ (∀ I150 : QI, I150 = q_u2 I149 54 ((v147 + 2)).toNatClampNeg a4 → (vp_in a1 4 ∧ (vp_in a1 4 ∧ (∀ I151 : QI, I151 = q_u2 I150 53 (a1).toNatClampNeg ((I150 53 (a1).toNatClampNeg) + 1) → (vp_in a1 4 ∧ post (I151 53 (a1).toNatClampNeg) I151))))))))))))) ∧ (r146 = 0 → post 0 I145))))) ∧ ((I 53 (a1).toNatClampNeg) = 10 → (wX8_goesWell 3 I (fun r153 I152 => ((¬ r153 = 0 → (vp_in a1 4 ∧ (∀ v154 : Int32, v154 = (((10 * a1) + (I152 53 (a1).toNatClampNeg)) * 3) → (vp_in v154 120 ∧ (∀ I155 : QI, I155 = q_u2 I152 54 (v154).toNatClampNeg a2 → (vp_in (v154 + 1) 120 ∧ (∀ I156 : QI, I156 = q_u2 I155 54 ((v154 + 1)).toNatClampNeg a3 → (vp_in (v154 + 2) 120 ∧ (∀ I157 : QI, I157 = q_u2 I156 54 ((v154 + 2)).toNatClampNeg a4 → (vp_in a1 4 ∧ (vp_in a1 4 ∧ (∀ I158 : QI, I158 = q_u2 I157 53 (a1).toNatClampNeg ((I157 53 (a1).toNatClampNeg) + 1) → (vp_in a1 4 ∧ post (I158 53 (a1).toNatClampNeg) I158))))))))))))) ∧ (r153 = 0 → post 0 I152)))))))) ∧ (r1 = 0 → (wX8_goesWell 1 I (fun r160 I159 => ((¬ r160 = 0 → (vp_in a1 4 ∧ (∀ v161 : Int32, v161 = (((10 * a1) + (I159 53 (a1).toNatClampNeg)) * 3) → (vp_in v161 120 ∧ (∀ I162 : QI, I162 = q_u2 I159 54 (v161).toNatClampNeg a2 → (vp_in (v161 + 1) 120 ∧ (∀ I163 : QI, I163 = q_u2 I162 54 ((v161 + 1)).toNatClampNeg a3 → (vp_in (v161 + 2) 120 ∧ (∀ I164 : QI, I164 = q_u2 I163 54 ((v161 + 2)).toNatClampNeg a4 → (vp_in a1 4 ∧ (vp_in a1 4 ∧ (∀ I165 : QI, I165 = q_u2 I164 53 (a1).toNatClampNeg ((I164 53 (a1).toNatClampNeg) + 1) → (vp_in a1 4 ∧ post (I165 53 (a1).toNatClampNeg) I165))))))))))))) ∧ (r160 = 0 → post 0 I159))))))))) ∧ (¬ (I 52 (a1).toNatClampNeg) ≤ 2 → (wX8_isValue a4 I (fun r166 => ((r166 = 0 → ((¬ r1 = 0 → (wX8_goesWell 2 I (fun r168 I167 => ((¬ r168 = 0 → (vp_in a1 4 ∧ (∀ v169 : Int32, v169 = (((10 * a1) + (I167 53 (a1).toNatClampNeg)) * 3) → (vp_in v169 120 ∧ (∀ I170 : QI, I170 = q_u2 I167 54 (v169).toNatClampNeg a2 → (vp_in (v169 + 1) 120 ∧ (∀ I171 : QI, I171 = q_u2 I170 54 ((v169 + 1)).toNatClampNeg a3 → (vp_in (v169 + 2) 120 ∧ (∀ I172 : QI, I172 = q_u2 I171 54 ((v169 + 2)).toNatClampNeg a4 → (vp_in a1 4 ∧ (vp_in a1 4 ∧ (∀ I173 : QI, I173 = q_u2 I172 53 (a1).toNatClampNeg ((I172 53 (a1).toNatClampNeg) + 1) → (vp_in a1 4 ∧ post (I173 53 (a1).toNatClampNeg) I173))))))))))))) ∧ (r168 = 0 → post 0 I167))))) ∧ (r1 = 0 → (wX8_goesWell 1 I (fun r175 I174 => ((¬ r175 = 0 → (vp_in a1 4 ∧ (∀ v176 : Int32, v176 = (((10 * a1) + (I174 53 (a1).toNatClampNeg)) * 3) → (vp_in v176 120 ∧ (∀ I177 : QI, I177 = q_u2 I174 54 (v176).toNatClampNeg a2 → (vp_in (v176 + 1) 120 ∧ (∀ I178 : QI, I178 = q_u2 I177 54 ((v176 + 1)).toNatClampNeg a3 → (vp_in (v176 + 2) 120 ∧ (∀ I179 : QI, I179 = q_u2 I178 54 ((v176 + 2)).toNatClampNeg a4 → (vp_in a1 4 ∧ (vp_in a1 4 ∧ (∀ I180 : QI, I180 = q_u2 I179 53 (a1).toNatClampNeg ((I179 53 (a1).toNatClampNeg) + 1) → (vp_in a1 4 ∧ post (I180 53 (a1).toNatClampNeg) I180))))))))))))) ∧ (r175 = 0 → post 0 I174))))))) ∧ (¬ r166 = 0 → ((¬ r1 = 0 → (vp_in a1 4 ∧ ((¬ (I 53 (a1).toNatClampNeg) = 10 → (wX8_goesWell 0 I (fun r182 I181 => ((¬ r182 = 0 → (vp_in a1 4 ∧ (∀ v183 : Int32, v183 = (((10 * a1) + (I181 53 (a1).toNatClampNeg)) * 3) → (vp_in v183 120 ∧ (∀ I184 : QI, I184 = q_u2 I181 54 (v183).toNatClampNeg a2 → (vp_in (v183 + 1) 120 ∧ (∀ I185 : QI, I185 = q_u2 I184 54 ((v183 + 1)).toNatClampNeg a3 → (vp_in (v183 + 2) 120 ∧ (∀ I186 : QI, I186 = q_u2 I185 54 ((v183 + 2)).toNatClampNeg a4 → (vp_in a1 4 ∧ (vp_in a1 4 ∧ (∀ I187 : QI, I187 = q_u2 I186 53 (a1).toNatClampNeg ((I186 53 (a1).toNatClampNeg) + 1) → (vp_in a1 4 ∧ post (I187 53 (a1).toNatClampNeg) I187))))))))))))) ∧ (r182 = 0 → post 0 I181))))) ∧ ((I 53 (a1).toNatClampNeg) = 10 → (wX8_goesWell 3 I (fun r189 I188 => ((¬ r189 = 0 → (vp_in a1 4 ∧ (∀ v190 : Int32, v190 = (((10 * a1) + (I188 53 (a1).toNatClampNeg)) * 3) → (vp_in v190 120 ∧ (∀ I191 : QI, I191 = q_u2 I188 54 (v190).toNatClampNeg a2 → (vp_in (v190 + 1) 120 ∧ (∀ I192 : QI, I192 = q_u2 I191 54 ((v190 + 1)).toNatClampNeg a3 → (vp_in (v190 + 2) 120 ∧ (∀ I193 : QI, I193 = q_u2 I192 54 ((v190 + 2)).toNatClampNeg a4 → (vp_in a1 4 ∧ (vp_in a1 4 ∧ (∀ I194 : QI, I194 = q_u2 I193 53 (a1).toNatClampNeg ((I193 53 (a1).toNatClampNeg) + 1) → (vp_in a1 4 ∧ post (I194 53 (a1).toNatClampNeg) I194))))))))))))) ∧ (r189 = 0 → post 0 I188)))))))) ∧ (r1 = 0 → (wX8_goesWell 1 I (fun r196 I195 => ((¬ r196 = 0 → (vp_in a1 4 ∧ (∀ v197 : Int32, v197 = (((10 * a1) + (I195 53 (a1).toNatClampNeg)) * 3) → (vp_in v197 120 ∧ (∀ I198 : QI, I198 = q_u2 I195 54 (v197).toNatClampNeg a2 → (vp_in (v197 + 1) 120 ∧ (∀ I199 : QI, I199 = q_u2 I198 54 ((v197 + 1)).toNatClampNeg a3 → (vp_in (v197 + 2) 120 ∧ (∀ I200 : QI, I200 = q_u2 I199 54 ((v197 + 2)).toNatClampNeg a4 → (vp_in a1 4 ∧ (vp_in a1 4 ∧ (∀ I201 : QI, I201 = q_u2 I200 53 (a1).toNatClampNeg ((I200 53 (a1).toNatClampNeg) + 1) → (vp_in a1 4 ∧ post (I201 53 (a1).toNatClampNeg) I201))))))))))))) ∧ (r196 = 0 → post 0 I195))))))))))))))))))))))))))))
set_option maxRecDepth 100000 in
set_option maxHeartbeats 4000000 in
theorem s_mX8_add {X : QX} {S : QS} {a1 : Int32} {a2 : Int32} {a3 : Int32} {a4 : Int32} {I : QI} {J : QJ} {post : Int32 → QI → Prop} (hS : Sh S) (h : wX8_add a1 a2 a3 a4 I post) : CX X mX8_add 2 0 0 [.ref 51, .int a1, .int a2, .int a3, .int a4] S I J (q_Pi S (fun r I2 J2 => J = J2 ∧ post r I2)) := by
  refine CX.of (lo := [(0, .ref 51), (1, .int a1), (2, .int a2), (3, .int a3), (4, .int a4)]) ok_mX8_add rfl (Nat.le_of_ble_eq_true rfl) rfl ?_
  replace h : (wX8_isTable a1 I (fun r1 => ((r1 = 0 → ((¬ r1 = 0 → (wX8_goesWell 2 I (fun r3 I2 => ((¬ r3 = 0 → (vp_in a1 4 ∧ (∀ v4 : Int32, v4 = (((10 * a1) + (I2 53 (a1).toNatClampNeg)) * 3) → (vp_in v4 120 ∧ (∀ I5 : QI, I5 = q_u2 I2 54 (v4).toNatClampNeg a2 → (vp_in (v4 + 1) 120 ∧ (∀ I6 : QI, I6 = q_u2 I5 54 ((v4 + 1)).toNatClampNeg a3 → (vp_in (v4 + 2) 120 ∧ (∀ I7 : QI, I7 = q_u2 I6 54 ((v4 + 2)).toNatClampNeg a4 → (vp_in a1 4 ∧ (vp_in a1 4 ∧ (∀ I8 : QI, I8 = q_u2 I7 53 (a1).toNatClampNeg ((I7 53 (a1).toNatClampNeg) + 1) → (vp_in a1 4 ∧ post (I8 53 (a1).toNatClampNeg) I8))))))))))))) ∧ (r3 = 0 → post 0 I2))))) ∧ (r1 = 0 → (wX8_goesWell 1 I (fun r10 I9 => ((¬ r10 = 0 → (vp_in a1 4 ∧ (∀ v11 : Int32, v11 = (((10 * a1) + (I9 53 (a1).toNatClampNeg)) * 3) → (vp_in v11 120 ∧ (∀ I12 : QI, I12 = q_u2 I9 54 (v11).toNatClampNeg a2 → (vp_in (v11 + 1) 120 ∧ (∀ I13 : QI, I13 = q_u2 I12 54 ((v11 + 1)).toNatClampNeg a3 → (vp_in (v11 + 2) 120 ∧ (∀ I14 : QI, I14 = q_u2 I13 54 ((v11 + 2)).toNatClampNeg a4 → (vp_in a1 4 ∧ (vp_in a1 4 ∧ (∀ I15 : QI, I15 = q_u2 I14 53 (a1).toNatClampNeg ((I14 53 (a1).toNatClampNeg) + 1) → (vp_in a1 4 ∧ post (I15 53 (a1).toNatClampNeg) I15))))))))))))) ∧ (r10 = 0 → post 0 I9))))))) ∧ (¬ r1 = 0 → (wX8_isValue a2 I (fun r16 => ((r16 = 0 → ((¬ r1 = 0 → (wX8_goesWell 2 I (fun r18 I17 => ((¬ r18 = 0 → (vp_in a1 4 ∧ (∀ v19 : Int32, v19 = (((10 * a1) + (I17 53 (a1).toNatClampNeg)) * 3) → (vp_in v19 120 ∧ (∀ I20 : QI, I20 = q_u2 I17 54 (v19).toNatClampNeg a2 → (vp_in (v19 + 1) 120 ∧ (∀ I21 : QI, I21 = q_u2 I20 54 ((v19 + 1)).toNatClampNeg a3 → (vp_in (v19 + 2) 120 ∧ (∀ I22 : QI, I22 = q_u2 I21 54 ((v19 + 2)).toNatClampNeg a4 → (vp_in a1 4 ∧ (vp_in a1 4 ∧ (∀ I23 : QI, I23 = q_u2 I22 53 (a1).toNatClampNeg ((I22 53 (a1).toNatClampNeg) + 1) → (vp_in a1 4 ∧ post (I23 53 (a1).toNatClampNeg) I23))))))))))))) ∧ (r18 = 0 → post 0 I17))))) ∧ (r1 = 0 → (wX8_goesWell 1 I (fun r25 I24 => ((¬ r25 = 0 → (vp_in a1 4 ∧ (∀ v26 : Int32, v26 = (((10 * a1) + (I24 53 (a1).toNatClampNeg)) * 3) → (vp_in v26 120 ∧ (∀ I27 : QI, I27 = q_u2 I24 54 (v26).toNatClampNeg a2 → (vp_in (v26 + 1) 120 ∧ (∀ I28 : QI, I28 = q_u2 I27 54 ((v26 + 1)).toNatClampNeg a3 → (vp_in (v26 + 2) 120 ∧ (∀ I29 : QI, I29 = q_u2 I28 54 ((v26 + 2)).toNatClampNeg a4 → (vp_in a1 4 ∧ (vp_in a1 4 ∧ (∀ I30 : QI, I30 = q_u2 I29 53 (a1).toNatClampNeg ((I29 53 (a1).toNatClampNeg) + 1) → (vp_in a1 4 ∧ post (I30 53 (a1).toNatClampNeg) I30))))))))))))) ∧ (r25 = 0 → post 0 I24))))))) ∧ (¬ r16 = 0 → (vp_in a1 4 ∧ (((I 52 (a1).toNatClampNeg) ≤ 1 → ((¬ a3 = 0 → ((¬ r1 = 0 → (wX8_goesWell 2 I (fun r32 I31 => ((¬ r32 = 0 → (vp_in a1 4 ∧ (∀ v33 : Int32, v33 = (((10 * a1) + (I31 53 (a1).toNatClampNeg)) * 3) → (vp_in v33 120 ∧ (∀ I34 : QI, I34 = q_u2 I31 54 (v33).toNatClampNeg a2 → (vp_in (v33 + 1) 120 ∧ (∀ I35 : QI, I35 = q_u2 I34 54 ((v33 + 1)).toNatClampNeg a3 → (vp_in (v33 + 2) 120 ∧ (∀ I36 : QI, I36 = q_u2 I35 54 ((v33 + 2)).toNatClampNeg a4 → (vp_in a1 4 ∧ (vp_in a1 4 ∧ (∀ I37 : QI, I37 = q_u2 I36 53 (a1).toNatClampNeg ((I36 53 (a1).toNatClampNeg) + 1) → (vp_in a1 4 ∧ post (I37 53 (a1).toNatClampNeg) I37))))))))))))) ∧ (r32 = 0 → post 0 I31))))) ∧ (r1 = 0 → (wX8_goesWell 1 I (fun r39 I38 => ((¬ r39 = 0 → (vp_in a1 4 ∧ (∀ v40 : Int32, v40 = (((10 * a1) + (I38 53 (a1).toNatClampNeg)) * 3) → (vp_in v40 120 ∧ (∀ I41 : QI, I41 = q_u2 I38 54 (v40).toNatClampNeg a2 → (vp_in (v40 + 1) 120 ∧ (∀ I42 : QI, I42 = q_u2 I41 54 ((v40 + 1)).toNatClampNeg a3 → (vp_in (v40 + 2) 120 ∧ (∀ I43 : QI, I43 = q_u2 I42 54 ((v40 + 2)).toNatClampNeg a4 → (vp_in a1 4 ∧ (vp_in a1 4 ∧ (∀ I44 : QI, I44 = q_u2 I43 53 (a1).toNatClampNeg ((I43 53 (a1).toNatClampNeg) + 1) → (vp_in a1 4 ∧ post (I44 53 (a1).toNatClampNeg) I44))))))))))))) ∧ (r39 = 0 → post 0 I38))))))) ∧ (a3 = 0 → (vp_in a1 4 ∧ (((I 52 (a1).toNatClampNeg) ≤ 2 → ((¬ a4 = 0 → ((¬ r1 = 0 → (wX8_goesWell 2 I (fun r46 I45 => ((¬ r46 = 0 → (vp_in a1 4 ∧ (∀ v47 : Int32, v47 = (((10 * a1) + (I45 53 (a1).toNatClampNeg)) * 3) → (vp_in v47 120 ∧ (∀ I48 : QI, I48 = q_u2 I45 54 (v47).toNatClampNeg a2 → (vp_in (v47 + 1) 120 ∧ (∀ I49 : QI, I49 = q_u2 I48 54 ((v47 + 1)).toNatClampNeg a3 → (vp_in (v47 + 2) 120 ∧ (∀ I50 : QI, I50 = q_u2 I49 54 ((v47 + 2)).toNatClampNeg a4 → (vp_in a1 4 ∧ (vp_in a1 4 ∧ (∀ I51 : QI, I51 = q_u2 I50 53 (a1).toNatClampNeg ((I50 53 (a1).toNatClampNeg) + 1) → (vp_in a1 4 ∧ post (I51 53 (a1).toNatClampNeg) I51))))))))))))) ∧ (r46 = 0 → post 0 I45))))) ∧ (r1 = 0 → (wX8_goesWell 1 I (fun r53 I52 => ((¬ r53 = 0 → (vp_in a1 4 ∧ (∀ v54 : Int32, v54 = (((10 * a1) + (I52 53 (a1).toNatClampNeg)) * 3) → (vp_in v54 120 ∧ (∀ I55 : QI, I55 = q_u2 I52 54 (v54).toNatClampNeg a2 → (vp_in (v54 + 1) 120 ∧ (∀ I56 : QI, I56 = q_u2 I55 54 ((v54 + 1)).toNatClampNeg a3 → (vp_in (v54 + 2) 120 ∧ (∀ I57 : QI, I57 = q_u2 I56 54 ((v54 + 2)).toNatClampNeg a4 → (vp_in a1 4 ∧ (vp_in a1 4 ∧ (∀ I58 : QI, I58 = q_u2 I57 53 (a1).toNatClampNeg ((I57 53 (a1).toNatClampNeg) + 1) → (vp_in a1 4 ∧ post (I58 53 (a1).toNatClampNeg) I58))))))))))))) ∧ (r53 = 0 → post 0 I52))))))) ∧ (a4 = 0 → ((¬ r1 = 0 → (vp_in a1 4 ∧ ((¬ (I 53 (a1).toNatClampNeg) = 10 → (wX8_goesWell 0 I (fun r60 I59 => ((¬ r60 = 0 → (vp_in a1 4 ∧ (∀ v61 : Int32, v61 = (((10 * a1) + (I59 53 (a1).toNatClampNeg)) * 3) → (vp_in v61 120 ∧ (∀ I62 : QI, I62 = q_u2 I59 54 (v61).toNatClampNeg a2 → (vp_in (v61 + 1) 120 ∧ (∀ I63 : QI, I63 = q_u2 I62 54 ((v61 + 1)).toNatClampNeg a3 → (vp_in (v61 + 2) 120 ∧ (∀ I64 : QI, I64 = q_u2 I63 54 ((v61 + 2)).toNatClampNeg a4 → (vp_in a1 4 ∧ (vp_in a1 4 ∧ (∀ I65 : QI, I65 = q_u2 I64 53 (a1).toNatClampNeg ((I64 53 (a1).toNatClampNeg) + 1) → (vp_in a1 4 ∧ post (I65 53 (a1).toNatClampNeg) I65))))))))))))) ∧ (r60 = 0 → post 0 I59))))) ∧ ((I 53 (a1).toNatClampNeg) = 10 → (wX8_goesWell 3 I (fun r67 I66 => ((¬ r67 = 0 → (vp_in a1 4 ∧ (∀ v68 : Int32, v68 = (((10 * a1) + (I66 53 (a1).toNatClampNeg)) * 3) → (vp_in v68 120 ∧ (∀ I69 : QI, I69 = q_u2 I66 54 (v68).toNatClampNeg a2 → (vp_in (v68 + 1) 120 ∧ (∀ I70 : QI, I70 = q_u2 I69 54 ((v68 + 1)).toNatClampNeg a3 → (vp_in (v68 + 2) 120 ∧ (∀ I71 : QI, I71 = q_u2 I70 54 ((v68 + 2)).toNatClampNeg a4 → (vp_in a1 4 ∧ (vp_in a1 4 ∧ (∀ I72 : QI, I72 = q_u2 I71 53 (a1).toNatClampNeg ((I71 53 (a1).toNatClampNeg) + 1) → (vp_in a1 4 ∧ post (I72 53 (a1).toNatClampNeg) I72))))))))))))) ∧ (r67 = 0 → post 0 I66)))))))) ∧ (r1 = 0 → (wX8_goesWell 1 I (fun r74 I73 => ((¬ r74 = 0 → (vp_in a1 4 ∧ (∀ v75 : Int32, v75 = (((10 * a1) + (I73 53 (a1).toNatClampNeg)) * 3) → (vp_in v75 120 ∧ (∀ I76 : QI, I76 = q_u2 I73 54 (v75).toNatClampNeg a2 → (vp_in (v75 + 1) 120 ∧ (∀ I77 : QI, I77 = q_u2 I76 54 ((v75 + 1)).toNatClampNeg a3 → (vp_in (v75 + 2) 120 ∧ (∀ I78 : QI, I78 = q_u2 I77 54 ((v75 + 2)).toNatClampNeg a4 → (vp_in a1 4 ∧ (vp_in a1 4 ∧ (∀ I79 : QI, I79 = q_u2 I78 53 (a1).toNatClampNeg ((I78 53 (a1).toNatClampNeg) + 1) → (vp_in a1 4 ∧ post (I79 53 (a1).toNatClampNeg) I79))))))))))))) ∧ (r74 = 0 → post 0 I73))))))))) ∧ (¬ (I 52 (a1).toNatClampNeg) ≤ 2 → (wX8_isValue a4 I (fun r80 => ((r80 = 0 → ((¬ r1 = 0 → (wX8_goesWell 2 I (fun r82 I81 => ((¬ r82 = 0 → (vp_in a1 4 ∧ (∀ v83 : Int32, v83 = (((10 * a1) + (I81 53 (a1).toNatClampNeg)) * 3) → (vp_in v83 120 ∧ (∀ I84 : QI, I84 = q_u2 I81 54 (v83).toNatClampNeg a2 → (vp_in (v83 + 1) 120 ∧ (∀ I85 : QI, I85 = q_u2 I84 54 ((v83 + 1)).toNatClampNeg a3 → (vp_in (v83 + 2) 120 ∧ (∀ I86 : QI, I86 = q_u2 I85 54 ((v83 + 2)).toNatClampNeg a4 → (vp_in a1 4 ∧ (vp_in a1 4 ∧ (∀ I87 : QI, I87 = q_u2 I86 53 (a1).toNatClampNeg ((I86 53 (a1).toNatClampNeg) + 1) → (vp_in a1 4 ∧ post (I87 53 (a1).toNatClampNeg) I87))))))))))))) ∧ (r82 = 0 → post 0 I81))))) ∧ (r1 = 0 → (wX8_goesWell 1 I (fun r89 I88 => ((¬ r89 = 0 → (vp_in a1 4 ∧ (∀ v90 : Int32, v90 = (((10 * a1) + (I88 53 (a1).toNatClampNeg)) * 3) → (vp_in v90 120 ∧ (∀ I91 : QI, I91 = q_u2 I88 54 (v90).toNatClampNeg a2 → (vp_in (v90 + 1) 120 ∧ (∀ I92 : QI, I92 = q_u2 I91 54 ((v90 + 1)).toNatClampNeg a3 → (vp_in (v90 + 2) 120 ∧ (∀ I93 : QI, I93 = q_u2 I92 54 ((v90 + 2)).toNatClampNeg a4 → (vp_in a1 4 ∧ (vp_in a1 4 ∧ (∀ I94 : QI, I94 = q_u2 I93 53 (a1).toNatClampNeg ((I93 53 (a1).toNatClampNeg) + 1) → (vp_in a1 4 ∧ post (I94 53 (a1).toNatClampNeg) I94))))))))))))) ∧ (r89 = 0 → post 0 I88))))))) ∧ (¬ r80 = 0 → ((¬ r1 = 0 → (vp_in a1 4 ∧ ((¬ (I 53 (a1).toNatClampNeg) = 10 → (wX8_goesWell 0 I (fun r96 I95 => ((¬ r96 = 0 → (vp_in a1 4 ∧ (∀ v97 : Int32, v97 = (((10 * a1) + (I95 53 (a1).toNatClampNeg)) * 3) → (vp_in v97 120 ∧ (∀ I98 : QI, I98 = q_u2 I95 54 (v97).toNatClampNeg a2 → (vp_in (v97 + 1) 120 ∧ (∀ I99 : QI, I99 = q_u2 I98 54 ((v97 + 1)).toNatClampNeg a3 → (vp_in (v97 + 2) 120 ∧ (∀ I100 : QI, I100 = q_u2 I99 54 ((v97 + 2)).toNatClampNeg a4 → (vp_in a1 4 ∧ (vp_in a1 4 ∧ (∀ I101 : QI, I101 = q_u2 I100 53 (a1).toNatClampNeg ((I100 53 (a1).toNatClampNeg) + 1) → (vp_in a1 4 ∧ post (I101 53 (a1).toNatClampNeg) I101))))))))))))) ∧ (r96 = 0 → post 0 I95))))) ∧ ((I 53 (a1).toNatClampNeg) = 10 → (wX8_goesWell 3 I (fun r103 I102 => ((¬ r103 = 0 → (vp_in a1 4 ∧ (∀ v104 : Int32, v104 = (((10 * a1) + (I102 53 (a1).toNatClampNeg)) * 3) → (vp_in v104 120 ∧ (∀ I105 : QI, I105 = q_u2 I102 54 (v104).toNatClampNeg a2 → (vp_in (v104 + 1) 120 ∧ (∀ I106 : QI, I106 = q_u2 I105 54 ((v104 + 1)).toNatClampNeg a3 → (vp_in (v104 + 2) 120 ∧ (∀ I107 : QI, I107 = q_u2 I106 54 ((v104 + 2)).toNatClampNeg a4 → (vp_in a1 4 ∧ (vp_in a1 4 ∧ (∀ I108 : QI, I108 = q_u2 I107 53 (a1).toNatClampNeg ((I107 53 (a1).toNatClampNeg) + 1) → (vp_in a1 4 ∧ post (I108 53 (a1).toNatClampNeg) I108))))))))))))) ∧ (r103 = 0 → post 0 I102)))))))) ∧ (r1 = 0 → (wX8_goesWell 1 I (fun r110 I109 => ((¬ r110 = 0 → (vp_in a1 4 ∧ (∀ v111 : Int32, v111 = (((10 * a1) + (I109 53 (a1).toNatClampNeg)) * 3) → (vp_in v111 120 ∧ (∀ I112 : QI, I112 = q_u2 I109 54 (v111).toNatClampNeg a2 → (vp_in (v111 + 1) 120 ∧ (∀ I113 : QI, I113 = q_u2 I112 54 ((v111 + 1)).toNatClampNeg a3 → (vp_in (v111 + 2) 120 ∧ (∀ I114 : QI, I114 = q_u2 I113 54 ((v111 + 2)).toNatClampNeg a4 → (vp_in a1 4 ∧ (vp_in a1 4 ∧ (∀ I115 : QI, I115 = q_u2 I114 53 (a1).toNatClampNeg ((I114 53 (a1).toNatClampNeg) + 1) → (vp_in a1 4 ∧ post (I115 53 (a1).toNatClampNeg) I115))))))))))))) ∧ (r110 = 0 → post 0 I109)))))))))))))))) ∧ (¬ (I 52 (a1).toNatClampNeg) ≤ 1 → (wX8_isValue a3 I (fun r116 => ((r116 = 0 → ((¬ r1 = 0 → (wX8_goesWell 2 I (fun r118 I117 => ((¬ r118 = 0 → (vp_in a1 4 ∧ (∀ v119 : Int32, v119 = (((10 * a1) + (I117 53 (a1).toNatClampNeg)) * 3) → (vp_in v119 120 ∧ (∀ I120 : QI, I120 = q_u2 I117 54 (v119).toNatClampNeg a2 → (vp_in (v119 + 1) 120 ∧ (∀ I121 : QI, I121 = q_u2 I120 54 ((v119 + 1)).toNatClampNeg a3 → (vp_in (v119 + 2) 120 ∧ (∀ I122 : QI, I122 = q_u2 I121 54 ((v119 + 2)).toNatClampNeg a4 → (vp_in a1 4 ∧ (vp_in a1 4 ∧ (∀ I123 : QI, I123 = q_u2 I122 53 (a1).toNatClampNeg ((I122 53 (a1).toNatClampNeg) + 1) → (vp_in a1 4 ∧ post (I123 53 (a1).toNatClampNeg) I123))))))))))))) ∧ (r118 = 0 → post 0 I117))))) ∧ (r1 = 0 → (wX8_goesWell 1 I (fun r125 I124 => ((¬ r125 = 0 → (vp_in a1 4 ∧ (∀ v126 : Int32, v126 = (((10 * a1) + (I124 53 (a1).toNatClampNeg)) * 3) → (vp_in v126 120 ∧ (∀ I127 : QI, I127 = q_u2 I124 54 (v126).toNatClampNeg a2 → (vp_in (v126 + 1) 120 ∧ (∀ I128 : QI, I128 = q_u2 I127 54 ((v126 + 1)).toNatClampNeg a3 → (vp_in (v126 + 2) 120 ∧ (∀ I129 : QI, I129 = q_u2 I128 54 ((v126 + 2)).toNatClampNeg a4 → (vp_in a1 4 ∧ (vp_in a1 4 ∧ (∀ I130 : QI, I130 = q_u2 I129 53 (a1).toNatClampNeg ((I129 53 (a1).toNatClampNeg) + 1) → (vp_in a1 4 ∧ post (I130 53 (a1).toNatClampNeg) I130))))))))))))) ∧ (r125 = 0 → post 0 I124))))))) ∧ (¬ r116 = 0 → (vp_in a1 4 ∧ (((I 52 (a1).toNatClampNeg) ≤ 2 → ((¬ a4 = 0 → ((¬ r1 = 0 → (wX8_goesWell 2 I (fun r132 I131 => ((¬ r132 = 0 → (vp_in a1 4 ∧ (∀ v133 : Int32, v133 = (((10 * a1) + (I131 53 (a1).toNatClampNeg)) * 3) → (vp_in v133 120 ∧ (∀ I134 : QI, I134 = q_u2 I131 54 (v133).toNatClampNeg a2 → (vp_in (v133 + 1) 120 ∧ (∀ I135 : QI, I135 = q_u2 I134 54 ((v133 + 1)).toNatClampNeg a3 → (vp_in (v133 + 2) 120 ∧ (∀ I136 : QI, I136 = q_u2 I135 54 ((v133 + 2)).toNatClampNeg a4 → (vp_in a1 4 ∧ (vp_in a1 4 ∧ (∀ I137 : QI, I137 = q_u2 I136 53 (a1).toNatClampNeg ((I136 53 (a1).toNatClampNeg) + 1) → (vp_in a1 4 ∧ post (I137 53 (a1).toNatClampNeg) I137))))))))))))) ∧ (r132 = 0 → post 0 I131))))) ∧ (r1 = 0 → (wX8_goesWell 1 I (fun r139 I138 => ((¬ r139 = 0 → (vp_in a1 4 ∧ (∀ v140 : Int32, v140 = (((10 * a1) + (I138 53 (a1).toNatClampNeg)) * 3) → (vp_in v140 120 ∧ (∀ I141 : QI, I141 = q_u2 I138 54 (v140).toNatClampNeg a2 → (vp_in (v140 + 1) 120 ∧ (∀ I142 : QI, I142 = q_u2 I141 54 ((v140 + 1)).toNatClampNeg a3 → (vp_in (v140 + 2) 120 ∧ (∀ I143 : QI, I143 = q_u2 I142 54 ((v140 + 2)).toNatClampNeg a4 → (vp_in a1 4 ∧ (vp_in a1 4 ∧ (∀ I144 : QI, I144 = q_u2 I143 53 (a1).toNatClampNeg ((I143 53 (a1).toNatClampNeg) + 1) → (vp_in a1 4 ∧ post (I144 53 (a1).toNatClampNeg) I144))))))))))))) ∧ (r139 = 0 → post 0 I138))))))) ∧ (a4 = 0 → ((¬ r1 = 0 → (vp_in a1 4 ∧ ((¬ (I 53 (a1).toNatClampNeg) = 10 → (wX8_goesWell 0 I (fun r146 I145 => ((¬ r146 = 0 → (vp_in a1 4 ∧ (∀ v147 : Int32, v147 = (((10 * a1) + (I145 53 (a1).toNatClampNeg)) * 3) → (vp_in v147 120 ∧ (∀ I148 : QI, I148 = q_u2 I145 54 (v147).toNatClampNeg a2 → (vp_in (v147 + 1) 120 ∧ (∀ I149 : QI, I149 = q_u2 I148 54 ((v147 + 1)).toNatClampNeg a3 → (vp_in (v147 + 2) 120 ∧ (∀ I150 : QI, I150 = q_u2 I149 54 ((v147 + 2)).toNatClampNeg a4 → (vp_in a1 4 ∧ (vp_in a1 4 ∧ (∀ I151 : QI, I151 = q_u2 I150 53 (a1).toNatClampNeg ((I150 53 (a1).toNatClampNeg) + 1) → (vp_in a1 4 ∧ post (I151 53 (a1).toNatClampNeg) I151))))))))))))) ∧ (r146 = 0 → post 0 I145))))) ∧ ((I 53 (a1).toNatClampNeg) = 10 → (wX8_goesWell 3 I (fun r153 I152 => ((¬ r153 = 0 → (vp_in a1 4 ∧ (∀ v154 : Int32, v154 = (((10 * a1) + (I152 53 (a1).toNatClampNeg)) * 3) → (vp_in v154 120 ∧ (∀ I155 : QI, I155 = q_u2 I152 54 (v154).toNatClampNeg a2 → (vp_in (v154 + 1) 120 ∧ (∀ I156 : QI, I156 = q_u2 I155 54 ((v154 + 1)).toNatClampNeg a3 → (vp_in (v154 + 2) 120 ∧ (∀ I157 : QI, I157 = q_u2 I156 54 ((v154 + 2)).toNatClampNeg a4 → (vp_in a1 4 ∧ (vp_in a1 4 ∧ (∀ I158 : QI, I158 = q_u2 I157 53 (a1).toNatClampNeg ((I157 53 (a1).toNatClampNeg) + 1) → (vp_in a1 4 ∧ post (I158 53 (a1).toNatClampNeg) I158))))))))))))) ∧ (r153 = 0 → post 0 I152)))))))) ∧ (r1 = 0 → (wX8_goesWell 1 I (fun r160 I159 => ((¬ r160 = 0 → (vp_in a1 4 ∧ (∀ v161 : Int32, v161 = (((10 * a1) + (I159 53 (a1).toNatClampNeg)) * 3) → (vp_in v161 120 ∧ (∀ I162 : QI, I162 = q_u2 I159 54 (v161).toNatClampNeg a2 → (vp_in (v161 + 1) 120 ∧ (∀ I163 : QI, I163 = q_u2 I162 54 ((v161 + 1)).toNatClampNeg a3 → (vp_in (v161 + 2) 120 ∧ (∀ I164 : QI, I164 = q_u2 I163 54 ((v161 + 2)).toNatClampNeg a4 → (vp_in a1 4 ∧ (vp_in a1 4 ∧ (∀ I165 : QI, I165 = q_u2 I164 53 (a1).toNatClampNeg ((I164 53 (a1).toNatClampNeg) + 1) → (vp_in a1 4 ∧ post (I165 53 (a1).toNatClampNeg) I165))))))))))))) ∧ (r160 = 0 → post 0 I159))))))))) ∧ (¬ (I 52 (a1).toNatClampNeg) ≤ 2 → (wX8_isValue a4 I (fun r166 => ((r166 = 0 → ((¬ r1 = 0 → (wX8_goesWell 2 I (fun r168 I167 => ((¬ r168 = 0 → (vp_in a1 4 ∧ (∀ v169 : Int32, v169 = (((10 * a1) + (I167 53 (a1).toNatClampNeg)) * 3) → (vp_in v169 120 ∧ (∀ I170 : QI, I170 = q_u2 I167 54 (v169).toNatClampNeg a2 → (vp_in (v169 + 1) 120 ∧ (∀ I171 : QI, I171 = q_u2 I170 54 ((v169 + 1)).toNatClampNeg a3 → (vp_in (v169 + 2) 120 ∧ (∀ I172 : QI, I172 = q_u2 I171 54 ((v169 + 2)).toNatClampNeg a4 → (vp_in a1 4 ∧ (vp_in a1 4 ∧ (∀ I173 : QI, I173 = q_u2 I172 53 (a1).toNatClampNeg ((I172 53 (a1).toNatClampNeg) + 1) → (vp_in a1 4 ∧ post (I173 53 (a1).toNatClampNeg) I173))))))))))))) ∧ (r168 = 0 → post 0 I167))))) ∧ (r1 = 0 → (wX8_goesWell 1 I (fun r175 I174 => ((¬ r175 = 0 → (vp_in a1 4 ∧ (∀ v176 : Int32, v176 = (((10 * a1) + (I174 53 (a1).toNatClampNeg)) * 3) → (vp_in v176 120 ∧ (∀ I177 : QI, I177 = q_u2 I174 54 (v176).toNatClampNeg a2 → (vp_in (v176 + 1) 120 ∧ (∀ I178 : QI, I178 = q_u2 I177 54 ((v176 + 1)).toNatClampNeg a3 → (vp_in (v176 + 2) 120 ∧ (∀ I179 : QI, I179 = q_u2 I178 54 ((v176 + 2)).toNatClampNeg a4 → (vp_in a1 4 ∧ (vp_in a1 4 ∧ (∀ I180 : QI, I180 = q_u2 I179 53 (a1).toNatClampNeg ((I179 53 (a1).toNatClampNeg) + 1) → (vp_in a1 4 ∧ post (I180 53 (a1).toNatClampNeg) I180))))))))))))) ∧ (r175 = 0 → post 0 I174))))))) ∧ (¬ r166 = 0 → ((¬ r1 = 0 → (vp_in a1 4 ∧ ((¬ (I 53 (a1).toNatClampNeg) = 10 → (wX8_goesWell 0 I (fun r182 I181 => ((¬ r182 = 0 → (vp_in a1 4 ∧ (∀ v183 : Int32, v183 = (((10 * a1) + (I181 53 (a1).toNatClampNeg)) * 3) → (vp_in v183 120 ∧ (∀ I184 : QI, I184 = q_u2 I181 54 (v183).toNatClampNeg a2 → (vp_in (v183 + 1) 120 ∧ (∀ I185 : QI, I185 = q_u2 I184 54 ((v183 + 1)).toNatClampNeg a3 → (vp_in (v183 + 2) 120 ∧ (∀ I186 : QI, I186 = q_u2 I185 54 ((v183 + 2)).toNatClampNeg a4 → (vp_in a1 4 ∧ (vp_in a1 4 ∧ (∀ I187 : QI, I187 = q_u2 I186 53 (a1).toNatClampNeg ((I186 53 (a1).toNatClampNeg) + 1) → (vp_in a1 4 ∧ post (I187 53 (a1).toNatClampNeg) I187))))))))))))) ∧ (r182 = 0 → post 0 I181))))) ∧ ((I 53 (a1).toNatClampNeg) = 10 → (wX8_goesWell 3 I (fun r189 I188 => ((¬ r189 = 0 → (vp_in a1 4 ∧ (∀ v190 : Int32, v190 = (((10 * a1) + (I188 53 (a1).toNatClampNeg)) * 3) → (vp_in v190 120 ∧ (∀ I191 : QI, I191 = q_u2 I188 54 (v190).toNatClampNeg a2 → (vp_in (v190 + 1) 120 ∧ (∀ I192 : QI, I192 = q_u2 I191 54 ((v190 + 1)).toNatClampNeg a3 → (vp_in (v190 + 2) 120 ∧ (∀ I193 : QI, I193 = q_u2 I192 54 ((v190 + 2)).toNatClampNeg a4 → (vp_in a1 4 ∧ (vp_in a1 4 ∧ (∀ I194 : QI, I194 = q_u2 I193 53 (a1).toNatClampNeg ((I193 53 (a1).toNatClampNeg) + 1) → (vp_in a1 4 ∧ post (I194 53 (a1).toNatClampNeg) I194))))))))))))) ∧ (r189 = 0 → post 0 I188)))))))) ∧ (r1 = 0 → (wX8_goesWell 1 I (fun r196 I195 => ((¬ r196 = 0 → (vp_in a1 4 ∧ (∀ v197 : Int32, v197 = (((10 * a1) + (I195 53 (a1).toNatClampNeg)) * 3) → (vp_in v197 120 ∧ (∀ I198 : QI, I198 = q_u2 I195 54 (v197).toNatClampNeg a2 → (vp_in (v197 + 1) 120 ∧ (∀ I199 : QI, I199 = q_u2 I198 54 ((v197 + 1)).toNatClampNeg a3 → (vp_in (v197 + 2) 120 ∧ (∀ I200 : QI, I200 = q_u2 I199 54 ((v197 + 2)).toNatClampNeg a4 → (vp_in a1 4 ∧ (vp_in a1 4 ∧ (∀ I201 : QI, I201 = q_u2 I200 53 (a1).toNatClampNeg ((I200 53 (a1).toNatClampNeg) + 1) → (vp_in a1 4 ∧ post (I201 53 (a1).toNatClampNeg) I201))))))))))))) ∧ (r196 = 0 → post 0 I195)))))))))))))))))))))))))))) := h
  refine V_aload_n dX8_add_0 rfl rfl ?_
  refine V_iload_n dX8_add_1 rfl rfl ?_
  refine V_callVi (st := []) [.int a1] dX8_add_2 ok_mX8_isTable rfl ml_RX8_108 in_mX8_isTable se_mX8_isTable (hS.n 51 rfl) (hS.k 51 8 rfl) (by decide) rfl (Nat.le_of_ble_eq_true rfl) (by decide) (by decide) (by decide) (s_mX8_isTable hS h) (fun r1 I9 J9 h => ?_)
  obtain ⟨rfl, rfl, h⟩ := h
  refine V_istore (lo2 := [(5, .int r1), (0, .ref 51), (1, .int a1), (2, .int a2), (3, .int a3), (4, .int a4)]) dX8_add_5 (by decide) rfl ?_
  refine V_iload dX8_add_7 rfl ?_
  refine V_if_eq 73 dX8_add_9 rfl (fun hc => ?_) (fun hc => ?_)
  · replace h := h.1 hc
    refine V_iconst (v := 0) dX8_add_73 (by decide) ?_
    refine V_istore (lo2 := [(6, .int 0), (5, .int r1), (0, .ref 51), (1, .int a1), (2, .int a2), (3, .int a3), (4, .int a4)]) dX8_add_74 (by decide) rfl ?_
    refine V_aload_n dX8_add_76 rfl rfl ?_
    refine V_iload dX8_add_77 rfl ?_
    refine V_if_ne 86 dX8_add_79 rfl (fun hc => ?_) (fun hc => ?_)
    · replace h := h.1 hc
      refine V_iload dX8_add_86 rfl ?_
      refine V_if_ne 95 dX8_add_88 rfl (fun hc => ?_) (fun hc => ?_)
      · first | exact absurd hc (by decide) | exact absurd (by decide) hc
      · refine V_iconst (v := 2) dX8_add_91 (by decide) ?_
        refine V_goto 111 dX8_add_92 rfl ?_
        refine V_callVi (st := []) [.int 2] dX8_add_111 ok_mX8_goesWell rfl ml_RX8_112 in_mX8_goesWell se_mX8_goesWell (hS.n 51 rfl) (hS.k 51 8 rfl) (by decide) rfl (Nat.le_of_ble_eq_true rfl) (by decide) (by decide) (by decide) (s_mX8_goesWell hS h) (fun r3 I2 J9 h => ?_)
        obtain ⟨rfl, h⟩ := h
        refine V_if_ne 119 dX8_add_114 rfl (fun hc => ?_) (fun hc => ?_)
        · replace h := h.1 hc
          refine V_bipush (v := 10) dX8_add_119 (by decide) ?_
          refine V_iload_n dX8_add_121 rfl rfl ?_
          refine V_imul dX8_add_122 ?_
          refine V_aload_n dX8_add_123 rfl rfl ?_
          refine V_getr dX8_add_124 fl_RX8_13 (hS.n 51 rfl) (hS.k 51 8 rfl) rfl (hS.r 51 3 53 rfl) ?_
          refine V_iload_n dX8_add_127 rfl rfl ?_
          obtain ⟨hb, h⟩ := h
          refine V_iald dX8_add_128 (hS.n 53 rfl) (hS.k 53 9 rfl) (by rw [(hS.z 53 4 rfl)]; exact hb) ?_
          refine V_iadd dX8_add_129 ?_
          refine V_iconst (v := 3) dX8_add_130 (by decide) ?_
          refine V_imul dX8_add_131 ?_
          refine V_topi (fun v4 e_v4 => ?_)
          replace h := h v4 e_v4
          refine V_istore (lo2 := [(7, .int v4), (6, .int 0), (5, .int r1), (0, .ref 51), (1, .int a1), (2, .int a2), (3, .int a3), (4, .int a4)]) dX8_add_132 (by decide) rfl ?_
          refine V_aload_n dX8_add_134 rfl rfl ?_
          refine V_getr dX8_add_135 fl_RX8_16 (hS.n 51 rfl) (hS.k 51 8 rfl) rfl (hS.r 51 4 54 rfl) ?_
          refine V_iload dX8_add_138 rfl ?_
          refine V_iload_n dX8_add_140 rfl rfl ?_
          obtain ⟨hb, h⟩ := h
          refine V_iast dX8_add_141 (hS.n 54 rfl) (hS.k 54 9 rfl) (by rw [(hS.z 54 120 rfl)]; exact hb) ?_
          refine V_memI (fun I5 e_I5 => ?_)
          replace h := h I5 e_I5
          refine V_aload_n dX8_add_142 rfl rfl ?_
          refine V_getr dX8_add_143 fl_RX8_16 (hS.n 51 rfl) (hS.k 51 8 rfl) rfl (hS.r 51 4 54 rfl) ?_
          refine V_iload dX8_add_146 rfl ?_
          refine V_iconst (v := 1) dX8_add_148 (by decide) ?_
          refine V_iadd dX8_add_149 ?_
          refine V_iload_n dX8_add_150 rfl rfl ?_
          obtain ⟨hb, h⟩ := h
          refine V_iast dX8_add_151 (hS.n 54 rfl) (hS.k 54 9 rfl) (by rw [(hS.z 54 120 rfl)]; exact hb) ?_
          refine V_memI (fun I6 e_I6 => ?_)
          replace h := h I6 e_I6
          refine V_aload_n dX8_add_152 rfl rfl ?_
          refine V_getr dX8_add_153 fl_RX8_16 (hS.n 51 rfl) (hS.k 51 8 rfl) rfl (hS.r 51 4 54 rfl) ?_
          refine V_iload dX8_add_156 rfl ?_
          refine V_iconst (v := 2) dX8_add_158 (by decide) ?_
          refine V_iadd dX8_add_159 ?_
          refine V_iload dX8_add_160 rfl ?_
          obtain ⟨hb, h⟩ := h
          refine V_iast dX8_add_162 (hS.n 54 rfl) (hS.k 54 9 rfl) (by rw [(hS.z 54 120 rfl)]; exact hb) ?_
          refine V_memI (fun I7 e_I7 => ?_)
          replace h := h I7 e_I7
          refine V_aload_n dX8_add_163 rfl rfl ?_
          refine V_getr dX8_add_164 fl_RX8_13 (hS.n 51 rfl) (hS.k 51 8 rfl) rfl (hS.r 51 3 53 rfl) ?_
          refine V_iload_n dX8_add_167 rfl rfl ?_
          refine V_dup2 dX8_add_168 rfl rfl ?_
          obtain ⟨hb, h⟩ := h
          refine V_iald dX8_add_169 (hS.n 53 rfl) (hS.k 53 9 rfl) (by rw [(hS.z 53 4 rfl)]; exact hb) ?_
          refine V_iconst (v := 1) dX8_add_170 (by decide) ?_
          refine V_iadd dX8_add_171 ?_
          obtain ⟨hb, h⟩ := h
          refine V_iast dX8_add_172 (hS.n 53 rfl) (hS.k 53 9 rfl) (by rw [(hS.z 53 4 rfl)]; exact hb) ?_
          refine V_memI (fun I8 e_I8 => ?_)
          replace h := h I8 e_I8
          refine V_aload_n dX8_add_173 rfl rfl ?_
          refine V_getr dX8_add_174 fl_RX8_13 (hS.n 51 rfl) (hS.k 51 8 rfl) rfl (hS.r 51 3 53 rfl) ?_
          refine V_iload_n dX8_add_177 rfl rfl ?_
          obtain ⟨hb, h⟩ := h
          refine V_iald dX8_add_178 (hS.n 53 rfl) (hS.k 53 9 rfl) (by rw [(hS.z 53 4 rfl)]; exact hb) ?_
          exact V_iret dX8_add_179 rfl (by decide) (by decide) ⟨_, rfl, rfl, rfl, h⟩
        · replace h := h.2 hc
          refine V_iconst (v := 0) dX8_add_117 (by decide) ?_
          exact V_iret dX8_add_118 rfl (by decide) (by decide) ⟨_, rfl, rfl, rfl, h⟩
    · replace h := h.2 hc
      refine V_iconst (v := 1) dX8_add_82 (by decide) ?_
      refine V_goto 111 dX8_add_83 rfl ?_
      refine V_callVi (st := []) [.int 1] dX8_add_111 ok_mX8_goesWell rfl ml_RX8_112 in_mX8_goesWell se_mX8_goesWell (hS.n 51 rfl) (hS.k 51 8 rfl) (by decide) rfl (Nat.le_of_ble_eq_true rfl) (by decide) (by decide) (by decide) (s_mX8_goesWell hS h) (fun r10 I9 J9 h => ?_)
      obtain ⟨rfl, h⟩ := h
      refine V_if_ne 119 dX8_add_114 rfl (fun hc => ?_) (fun hc => ?_)
      · replace h := h.1 hc
        refine V_bipush (v := 10) dX8_add_119 (by decide) ?_
        refine V_iload_n dX8_add_121 rfl rfl ?_
        refine V_imul dX8_add_122 ?_
        refine V_aload_n dX8_add_123 rfl rfl ?_
        refine V_getr dX8_add_124 fl_RX8_13 (hS.n 51 rfl) (hS.k 51 8 rfl) rfl (hS.r 51 3 53 rfl) ?_
        refine V_iload_n dX8_add_127 rfl rfl ?_
        obtain ⟨hb, h⟩ := h
        refine V_iald dX8_add_128 (hS.n 53 rfl) (hS.k 53 9 rfl) (by rw [(hS.z 53 4 rfl)]; exact hb) ?_
        refine V_iadd dX8_add_129 ?_
        refine V_iconst (v := 3) dX8_add_130 (by decide) ?_
        refine V_imul dX8_add_131 ?_
        refine V_topi (fun v11 e_v11 => ?_)
        replace h := h v11 e_v11
        refine V_istore (lo2 := [(7, .int v11), (6, .int 0), (5, .int r1), (0, .ref 51), (1, .int a1), (2, .int a2), (3, .int a3), (4, .int a4)]) dX8_add_132 (by decide) rfl ?_
        refine V_aload_n dX8_add_134 rfl rfl ?_
        refine V_getr dX8_add_135 fl_RX8_16 (hS.n 51 rfl) (hS.k 51 8 rfl) rfl (hS.r 51 4 54 rfl) ?_
        refine V_iload dX8_add_138 rfl ?_
        refine V_iload_n dX8_add_140 rfl rfl ?_
        obtain ⟨hb, h⟩ := h
        refine V_iast dX8_add_141 (hS.n 54 rfl) (hS.k 54 9 rfl) (by rw [(hS.z 54 120 rfl)]; exact hb) ?_
        refine V_memI (fun I12 e_I12 => ?_)
        replace h := h I12 e_I12
        refine V_aload_n dX8_add_142 rfl rfl ?_
        refine V_getr dX8_add_143 fl_RX8_16 (hS.n 51 rfl) (hS.k 51 8 rfl) rfl (hS.r 51 4 54 rfl) ?_
        refine V_iload dX8_add_146 rfl ?_
        refine V_iconst (v := 1) dX8_add_148 (by decide) ?_
        refine V_iadd dX8_add_149 ?_
        refine V_iload_n dX8_add_150 rfl rfl ?_
        obtain ⟨hb, h⟩ := h
        refine V_iast dX8_add_151 (hS.n 54 rfl) (hS.k 54 9 rfl) (by rw [(hS.z 54 120 rfl)]; exact hb) ?_
        refine V_memI (fun I13 e_I13 => ?_)
        replace h := h I13 e_I13
        refine V_aload_n dX8_add_152 rfl rfl ?_
        refine V_getr dX8_add_153 fl_RX8_16 (hS.n 51 rfl) (hS.k 51 8 rfl) rfl (hS.r 51 4 54 rfl) ?_
        refine V_iload dX8_add_156 rfl ?_
        refine V_iconst (v := 2) dX8_add_158 (by decide) ?_
        refine V_iadd dX8_add_159 ?_
        refine V_iload dX8_add_160 rfl ?_
        obtain ⟨hb, h⟩ := h
        refine V_iast dX8_add_162 (hS.n 54 rfl) (hS.k 54 9 rfl) (by rw [(hS.z 54 120 rfl)]; exact hb) ?_
        refine V_memI (fun I14 e_I14 => ?_)
        replace h := h I14 e_I14
        refine V_aload_n dX8_add_163 rfl rfl ?_
        refine V_getr dX8_add_164 fl_RX8_13 (hS.n 51 rfl) (hS.k 51 8 rfl) rfl (hS.r 51 3 53 rfl) ?_
        refine V_iload_n dX8_add_167 rfl rfl ?_
        refine V_dup2 dX8_add_168 rfl rfl ?_
        obtain ⟨hb, h⟩ := h
        refine V_iald dX8_add_169 (hS.n 53 rfl) (hS.k 53 9 rfl) (by rw [(hS.z 53 4 rfl)]; exact hb) ?_
        refine V_iconst (v := 1) dX8_add_170 (by decide) ?_
        refine V_iadd dX8_add_171 ?_
        obtain ⟨hb, h⟩ := h
        refine V_iast dX8_add_172 (hS.n 53 rfl) (hS.k 53 9 rfl) (by rw [(hS.z 53 4 rfl)]; exact hb) ?_
        refine V_memI (fun I15 e_I15 => ?_)
        replace h := h I15 e_I15
        refine V_aload_n dX8_add_173 rfl rfl ?_
        refine V_getr dX8_add_174 fl_RX8_13 (hS.n 51 rfl) (hS.k 51 8 rfl) rfl (hS.r 51 3 53 rfl) ?_
        refine V_iload_n dX8_add_177 rfl rfl ?_
        obtain ⟨hb, h⟩ := h
        refine V_iald dX8_add_178 (hS.n 53 rfl) (hS.k 53 9 rfl) (by rw [(hS.z 53 4 rfl)]; exact hb) ?_
        exact V_iret dX8_add_179 rfl (by decide) (by decide) ⟨_, rfl, rfl, rfl, h⟩
      · replace h := h.2 hc
        refine V_iconst (v := 0) dX8_add_117 (by decide) ?_
        exact V_iret dX8_add_118 rfl (by decide) (by decide) ⟨_, rfl, rfl, rfl, h⟩
  · replace h := h.2 hc
    refine V_iload_n dX8_add_12 rfl rfl ?_
    refine V_callSi (st := []) [.int a2] dX8_add_13 ok_mX8_isValue rfl ml_RX8_115 st_mX8_isValue (Nat.le_of_ble_eq_true rfl) (by decide) (by decide) (by decide) (s_mX8_isValue hS h) (fun r16 I9 J9 h => ?_)
    obtain ⟨rfl, rfl, h⟩ := h
    refine V_if_eq 73 dX8_add_16 rfl (fun hc => ?_) (fun hc => ?_)
    · replace h := h.1 hc
      refine V_iconst (v := 0) dX8_add_73 (by decide) ?_
      refine V_istore (lo2 := [(6, .int 0), (5, .int r1), (0, .ref 51), (1, .int a1), (2, .int a2), (3, .int a3), (4, .int a4)]) dX8_add_74 (by decide) rfl ?_
      refine V_aload_n dX8_add_76 rfl rfl ?_
      refine V_iload dX8_add_77 rfl ?_
      refine V_if_ne 86 dX8_add_79 rfl (fun hc => ?_) (fun hc => ?_)
      · replace h := h.1 hc
        refine V_iload dX8_add_86 rfl ?_
        refine V_if_ne 95 dX8_add_88 rfl (fun hc => ?_) (fun hc => ?_)
        · first | exact absurd hc (by decide) | exact absurd (by decide) hc
        · refine V_iconst (v := 2) dX8_add_91 (by decide) ?_
          refine V_goto 111 dX8_add_92 rfl ?_
          refine V_callVi (st := []) [.int 2] dX8_add_111 ok_mX8_goesWell rfl ml_RX8_112 in_mX8_goesWell se_mX8_goesWell (hS.n 51 rfl) (hS.k 51 8 rfl) (by decide) rfl (Nat.le_of_ble_eq_true rfl) (by decide) (by decide) (by decide) (s_mX8_goesWell hS h) (fun r18 I17 J9 h => ?_)
          obtain ⟨rfl, h⟩ := h
          refine V_if_ne 119 dX8_add_114 rfl (fun hc => ?_) (fun hc => ?_)
          · replace h := h.1 hc
            refine V_bipush (v := 10) dX8_add_119 (by decide) ?_
            refine V_iload_n dX8_add_121 rfl rfl ?_
            refine V_imul dX8_add_122 ?_
            refine V_aload_n dX8_add_123 rfl rfl ?_
            refine V_getr dX8_add_124 fl_RX8_13 (hS.n 51 rfl) (hS.k 51 8 rfl) rfl (hS.r 51 3 53 rfl) ?_
            refine V_iload_n dX8_add_127 rfl rfl ?_
            obtain ⟨hb, h⟩ := h
            refine V_iald dX8_add_128 (hS.n 53 rfl) (hS.k 53 9 rfl) (by rw [(hS.z 53 4 rfl)]; exact hb) ?_
            refine V_iadd dX8_add_129 ?_
            refine V_iconst (v := 3) dX8_add_130 (by decide) ?_
            refine V_imul dX8_add_131 ?_
            refine V_topi (fun v19 e_v19 => ?_)
            replace h := h v19 e_v19
            refine V_istore (lo2 := [(7, .int v19), (6, .int 0), (5, .int r1), (0, .ref 51), (1, .int a1), (2, .int a2), (3, .int a3), (4, .int a4)]) dX8_add_132 (by decide) rfl ?_
            refine V_aload_n dX8_add_134 rfl rfl ?_
            refine V_getr dX8_add_135 fl_RX8_16 (hS.n 51 rfl) (hS.k 51 8 rfl) rfl (hS.r 51 4 54 rfl) ?_
            refine V_iload dX8_add_138 rfl ?_
            refine V_iload_n dX8_add_140 rfl rfl ?_
            obtain ⟨hb, h⟩ := h
            refine V_iast dX8_add_141 (hS.n 54 rfl) (hS.k 54 9 rfl) (by rw [(hS.z 54 120 rfl)]; exact hb) ?_
            refine V_memI (fun I20 e_I20 => ?_)
            replace h := h I20 e_I20
            refine V_aload_n dX8_add_142 rfl rfl ?_
            refine V_getr dX8_add_143 fl_RX8_16 (hS.n 51 rfl) (hS.k 51 8 rfl) rfl (hS.r 51 4 54 rfl) ?_
            refine V_iload dX8_add_146 rfl ?_
            refine V_iconst (v := 1) dX8_add_148 (by decide) ?_
            refine V_iadd dX8_add_149 ?_
            refine V_iload_n dX8_add_150 rfl rfl ?_
            obtain ⟨hb, h⟩ := h
            refine V_iast dX8_add_151 (hS.n 54 rfl) (hS.k 54 9 rfl) (by rw [(hS.z 54 120 rfl)]; exact hb) ?_
            refine V_memI (fun I21 e_I21 => ?_)
            replace h := h I21 e_I21
            refine V_aload_n dX8_add_152 rfl rfl ?_
            refine V_getr dX8_add_153 fl_RX8_16 (hS.n 51 rfl) (hS.k 51 8 rfl) rfl (hS.r 51 4 54 rfl) ?_
            refine V_iload dX8_add_156 rfl ?_
            refine V_iconst (v := 2) dX8_add_158 (by decide) ?_
            refine V_iadd dX8_add_159 ?_
            refine V_iload dX8_add_160 rfl ?_
            obtain ⟨hb, h⟩ := h
            refine V_iast dX8_add_162 (hS.n 54 rfl) (hS.k 54 9 rfl) (by rw [(hS.z 54 120 rfl)]; exact hb) ?_
            refine V_memI (fun I22 e_I22 => ?_)
            replace h := h I22 e_I22
            refine V_aload_n dX8_add_163 rfl rfl ?_
            refine V_getr dX8_add_164 fl_RX8_13 (hS.n 51 rfl) (hS.k 51 8 rfl) rfl (hS.r 51 3 53 rfl) ?_
            refine V_iload_n dX8_add_167 rfl rfl ?_
            refine V_dup2 dX8_add_168 rfl rfl ?_
            obtain ⟨hb, h⟩ := h
            refine V_iald dX8_add_169 (hS.n 53 rfl) (hS.k 53 9 rfl) (by rw [(hS.z 53 4 rfl)]; exact hb) ?_
            refine V_iconst (v := 1) dX8_add_170 (by decide) ?_
            refine V_iadd dX8_add_171 ?_
            obtain ⟨hb, h⟩ := h
            refine V_iast dX8_add_172 (hS.n 53 rfl) (hS.k 53 9 rfl) (by rw [(hS.z 53 4 rfl)]; exact hb) ?_
            refine V_memI (fun I23 e_I23 => ?_)
            replace h := h I23 e_I23
            refine V_aload_n dX8_add_173 rfl rfl ?_
            refine V_getr dX8_add_174 fl_RX8_13 (hS.n 51 rfl) (hS.k 51 8 rfl) rfl (hS.r 51 3 53 rfl) ?_
            refine V_iload_n dX8_add_177 rfl rfl ?_
            obtain ⟨hb, h⟩ := h
            refine V_iald dX8_add_178 (hS.n 53 rfl) (hS.k 53 9 rfl) (by rw [(hS.z 53 4 rfl)]; exact hb) ?_
            exact V_iret dX8_add_179 rfl (by decide) (by decide) ⟨_, rfl, rfl, rfl, h⟩
          · replace h := h.2 hc
            refine V_iconst (v := 0) dX8_add_117 (by decide) ?_
            exact V_iret dX8_add_118 rfl (by decide) (by decide) ⟨_, rfl, rfl, rfl, h⟩
      · replace h := h.2 hc
        refine V_iconst (v := 1) dX8_add_82 (by decide) ?_
        refine V_goto 111 dX8_add_83 rfl ?_
        refine V_callVi (st := []) [.int 1] dX8_add_111 ok_mX8_goesWell rfl ml_RX8_112 in_mX8_goesWell se_mX8_goesWell (hS.n 51 rfl) (hS.k 51 8 rfl) (by decide) rfl (Nat.le_of_ble_eq_true rfl) (by decide) (by decide) (by decide) (s_mX8_goesWell hS h) (fun r25 I24 J9 h => ?_)
        obtain ⟨rfl, h⟩ := h
        refine V_if_ne 119 dX8_add_114 rfl (fun hc => ?_) (fun hc => ?_)
        · replace h := h.1 hc
          refine V_bipush (v := 10) dX8_add_119 (by decide) ?_
          refine V_iload_n dX8_add_121 rfl rfl ?_
          refine V_imul dX8_add_122 ?_
          refine V_aload_n dX8_add_123 rfl rfl ?_
          refine V_getr dX8_add_124 fl_RX8_13 (hS.n 51 rfl) (hS.k 51 8 rfl) rfl (hS.r 51 3 53 rfl) ?_
          refine V_iload_n dX8_add_127 rfl rfl ?_
          obtain ⟨hb, h⟩ := h
          refine V_iald dX8_add_128 (hS.n 53 rfl) (hS.k 53 9 rfl) (by rw [(hS.z 53 4 rfl)]; exact hb) ?_
          refine V_iadd dX8_add_129 ?_
          refine V_iconst (v := 3) dX8_add_130 (by decide) ?_
          refine V_imul dX8_add_131 ?_
          refine V_topi (fun v26 e_v26 => ?_)
          replace h := h v26 e_v26
          refine V_istore (lo2 := [(7, .int v26), (6, .int 0), (5, .int r1), (0, .ref 51), (1, .int a1), (2, .int a2), (3, .int a3), (4, .int a4)]) dX8_add_132 (by decide) rfl ?_
          refine V_aload_n dX8_add_134 rfl rfl ?_
          refine V_getr dX8_add_135 fl_RX8_16 (hS.n 51 rfl) (hS.k 51 8 rfl) rfl (hS.r 51 4 54 rfl) ?_
          refine V_iload dX8_add_138 rfl ?_
          refine V_iload_n dX8_add_140 rfl rfl ?_
          obtain ⟨hb, h⟩ := h
          refine V_iast dX8_add_141 (hS.n 54 rfl) (hS.k 54 9 rfl) (by rw [(hS.z 54 120 rfl)]; exact hb) ?_
          refine V_memI (fun I27 e_I27 => ?_)
          replace h := h I27 e_I27
          refine V_aload_n dX8_add_142 rfl rfl ?_
          refine V_getr dX8_add_143 fl_RX8_16 (hS.n 51 rfl) (hS.k 51 8 rfl) rfl (hS.r 51 4 54 rfl) ?_
          refine V_iload dX8_add_146 rfl ?_
          refine V_iconst (v := 1) dX8_add_148 (by decide) ?_
          refine V_iadd dX8_add_149 ?_
          refine V_iload_n dX8_add_150 rfl rfl ?_
          obtain ⟨hb, h⟩ := h
          refine V_iast dX8_add_151 (hS.n 54 rfl) (hS.k 54 9 rfl) (by rw [(hS.z 54 120 rfl)]; exact hb) ?_
          refine V_memI (fun I28 e_I28 => ?_)
          replace h := h I28 e_I28
          refine V_aload_n dX8_add_152 rfl rfl ?_
          refine V_getr dX8_add_153 fl_RX8_16 (hS.n 51 rfl) (hS.k 51 8 rfl) rfl (hS.r 51 4 54 rfl) ?_
          refine V_iload dX8_add_156 rfl ?_
          refine V_iconst (v := 2) dX8_add_158 (by decide) ?_
          refine V_iadd dX8_add_159 ?_
          refine V_iload dX8_add_160 rfl ?_
          obtain ⟨hb, h⟩ := h
          refine V_iast dX8_add_162 (hS.n 54 rfl) (hS.k 54 9 rfl) (by rw [(hS.z 54 120 rfl)]; exact hb) ?_
          refine V_memI (fun I29 e_I29 => ?_)
          replace h := h I29 e_I29
          refine V_aload_n dX8_add_163 rfl rfl ?_
          refine V_getr dX8_add_164 fl_RX8_13 (hS.n 51 rfl) (hS.k 51 8 rfl) rfl (hS.r 51 3 53 rfl) ?_
          refine V_iload_n dX8_add_167 rfl rfl ?_
          refine V_dup2 dX8_add_168 rfl rfl ?_
          obtain ⟨hb, h⟩ := h
          refine V_iald dX8_add_169 (hS.n 53 rfl) (hS.k 53 9 rfl) (by rw [(hS.z 53 4 rfl)]; exact hb) ?_
          refine V_iconst (v := 1) dX8_add_170 (by decide) ?_
          refine V_iadd dX8_add_171 ?_
          obtain ⟨hb, h⟩ := h
          refine V_iast dX8_add_172 (hS.n 53 rfl) (hS.k 53 9 rfl) (by rw [(hS.z 53 4 rfl)]; exact hb) ?_
          refine V_memI (fun I30 e_I30 => ?_)
          replace h := h I30 e_I30
          refine V_aload_n dX8_add_173 rfl rfl ?_
          refine V_getr dX8_add_174 fl_RX8_13 (hS.n 51 rfl) (hS.k 51 8 rfl) rfl (hS.r 51 3 53 rfl) ?_
          refine V_iload_n dX8_add_177 rfl rfl ?_
          obtain ⟨hb, h⟩ := h
          refine V_iald dX8_add_178 (hS.n 53 rfl) (hS.k 53 9 rfl) (by rw [(hS.z 53 4 rfl)]; exact hb) ?_
          exact V_iret dX8_add_179 rfl (by decide) (by decide) ⟨_, rfl, rfl, rfl, h⟩
        · replace h := h.2 hc
          refine V_iconst (v := 0) dX8_add_117 (by decide) ?_
          exact V_iret dX8_add_118 rfl (by decide) (by decide) ⟨_, rfl, rfl, rfl, h⟩
    · replace h := h.2 hc
      refine V_aload_n dX8_add_19 rfl rfl ?_
      refine V_getr dX8_add_20 fl_RX8_9 (hS.n 51 rfl) (hS.k 51 8 rfl) rfl (hS.r 51 2 52 rfl) ?_
      refine V_iload_n dX8_add_23 rfl rfl ?_
      obtain ⟨hb, h⟩ := h
      refine V_iald dX8_add_24 (hS.n 52 rfl) (hS.k 52 9 rfl) (by rw [(hS.z 52 4 rfl)]; exact hb) ?_
      refine V_iconst (v := 1) dX8_add_25 (by decide) ?_
      refine V_icmp_le 39 dX8_add_26 rfl (fun hc => ?_) (fun hc => ?_)
      · replace h := h.1 hc
        refine V_iload_n dX8_add_39 rfl rfl ?_
        refine V_if_ne 73 dX8_add_40 rfl (fun hc => ?_) (fun hc => ?_)
        · replace h := h.1 hc
          refine V_iconst (v := 0) dX8_add_73 (by decide) ?_
          refine V_istore (lo2 := [(6, .int 0), (5, .int r1), (0, .ref 51), (1, .int a1), (2, .int a2), (3, .int a3), (4, .int a4)]) dX8_add_74 (by decide) rfl ?_
          refine V_aload_n dX8_add_76 rfl rfl ?_
          refine V_iload dX8_add_77 rfl ?_
          refine V_if_ne 86 dX8_add_79 rfl (fun hc => ?_) (fun hc => ?_)
          · replace h := h.1 hc
            refine V_iload dX8_add_86 rfl ?_
            refine V_if_ne 95 dX8_add_88 rfl (fun hc => ?_) (fun hc => ?_)
            · first | exact absurd hc (by decide) | exact absurd (by decide) hc
            · refine V_iconst (v := 2) dX8_add_91 (by decide) ?_
              refine V_goto 111 dX8_add_92 rfl ?_
              refine V_callVi (st := []) [.int 2] dX8_add_111 ok_mX8_goesWell rfl ml_RX8_112 in_mX8_goesWell se_mX8_goesWell (hS.n 51 rfl) (hS.k 51 8 rfl) (by decide) rfl (Nat.le_of_ble_eq_true rfl) (by decide) (by decide) (by decide) (s_mX8_goesWell hS h) (fun r32 I31 J9 h => ?_)
              obtain ⟨rfl, h⟩ := h
              refine V_if_ne 119 dX8_add_114 rfl (fun hc => ?_) (fun hc => ?_)
              · replace h := h.1 hc
                refine V_bipush (v := 10) dX8_add_119 (by decide) ?_
                refine V_iload_n dX8_add_121 rfl rfl ?_
                refine V_imul dX8_add_122 ?_
                refine V_aload_n dX8_add_123 rfl rfl ?_
                refine V_getr dX8_add_124 fl_RX8_13 (hS.n 51 rfl) (hS.k 51 8 rfl) rfl (hS.r 51 3 53 rfl) ?_
                refine V_iload_n dX8_add_127 rfl rfl ?_
                obtain ⟨hb, h⟩ := h
                refine V_iald dX8_add_128 (hS.n 53 rfl) (hS.k 53 9 rfl) (by rw [(hS.z 53 4 rfl)]; exact hb) ?_
                refine V_iadd dX8_add_129 ?_
                refine V_iconst (v := 3) dX8_add_130 (by decide) ?_
                refine V_imul dX8_add_131 ?_
                refine V_topi (fun v33 e_v33 => ?_)
                replace h := h v33 e_v33
                refine V_istore (lo2 := [(7, .int v33), (6, .int 0), (5, .int r1), (0, .ref 51), (1, .int a1), (2, .int a2), (3, .int a3), (4, .int a4)]) dX8_add_132 (by decide) rfl ?_
                refine V_aload_n dX8_add_134 rfl rfl ?_
                refine V_getr dX8_add_135 fl_RX8_16 (hS.n 51 rfl) (hS.k 51 8 rfl) rfl (hS.r 51 4 54 rfl) ?_
                refine V_iload dX8_add_138 rfl ?_
                refine V_iload_n dX8_add_140 rfl rfl ?_
                obtain ⟨hb, h⟩ := h
                refine V_iast dX8_add_141 (hS.n 54 rfl) (hS.k 54 9 rfl) (by rw [(hS.z 54 120 rfl)]; exact hb) ?_
                refine V_memI (fun I34 e_I34 => ?_)
                replace h := h I34 e_I34
                refine V_aload_n dX8_add_142 rfl rfl ?_
                refine V_getr dX8_add_143 fl_RX8_16 (hS.n 51 rfl) (hS.k 51 8 rfl) rfl (hS.r 51 4 54 rfl) ?_
                refine V_iload dX8_add_146 rfl ?_
                refine V_iconst (v := 1) dX8_add_148 (by decide) ?_
                refine V_iadd dX8_add_149 ?_
                refine V_iload_n dX8_add_150 rfl rfl ?_
                obtain ⟨hb, h⟩ := h
                refine V_iast dX8_add_151 (hS.n 54 rfl) (hS.k 54 9 rfl) (by rw [(hS.z 54 120 rfl)]; exact hb) ?_
                refine V_memI (fun I35 e_I35 => ?_)
                replace h := h I35 e_I35
                refine V_aload_n dX8_add_152 rfl rfl ?_
                refine V_getr dX8_add_153 fl_RX8_16 (hS.n 51 rfl) (hS.k 51 8 rfl) rfl (hS.r 51 4 54 rfl) ?_
                refine V_iload dX8_add_156 rfl ?_
                refine V_iconst (v := 2) dX8_add_158 (by decide) ?_
                refine V_iadd dX8_add_159 ?_
                refine V_iload dX8_add_160 rfl ?_
                obtain ⟨hb, h⟩ := h
                refine V_iast dX8_add_162 (hS.n 54 rfl) (hS.k 54 9 rfl) (by rw [(hS.z 54 120 rfl)]; exact hb) ?_
                refine V_memI (fun I36 e_I36 => ?_)
                replace h := h I36 e_I36
                refine V_aload_n dX8_add_163 rfl rfl ?_
                refine V_getr dX8_add_164 fl_RX8_13 (hS.n 51 rfl) (hS.k 51 8 rfl) rfl (hS.r 51 3 53 rfl) ?_
                refine V_iload_n dX8_add_167 rfl rfl ?_
                refine V_dup2 dX8_add_168 rfl rfl ?_
                obtain ⟨hb, h⟩ := h
                refine V_iald dX8_add_169 (hS.n 53 rfl) (hS.k 53 9 rfl) (by rw [(hS.z 53 4 rfl)]; exact hb) ?_
                refine V_iconst (v := 1) dX8_add_170 (by decide) ?_
                refine V_iadd dX8_add_171 ?_
                obtain ⟨hb, h⟩ := h
                refine V_iast dX8_add_172 (hS.n 53 rfl) (hS.k 53 9 rfl) (by rw [(hS.z 53 4 rfl)]; exact hb) ?_
                refine V_memI (fun I37 e_I37 => ?_)
                replace h := h I37 e_I37
                refine V_aload_n dX8_add_173 rfl rfl ?_
                refine V_getr dX8_add_174 fl_RX8_13 (hS.n 51 rfl) (hS.k 51 8 rfl) rfl (hS.r 51 3 53 rfl) ?_
                refine V_iload_n dX8_add_177 rfl rfl ?_
                obtain ⟨hb, h⟩ := h
                refine V_iald dX8_add_178 (hS.n 53 rfl) (hS.k 53 9 rfl) (by rw [(hS.z 53 4 rfl)]; exact hb) ?_
                exact V_iret dX8_add_179 rfl (by decide) (by decide) ⟨_, rfl, rfl, rfl, h⟩
              · replace h := h.2 hc
                refine V_iconst (v := 0) dX8_add_117 (by decide) ?_
                exact V_iret dX8_add_118 rfl (by decide) (by decide) ⟨_, rfl, rfl, rfl, h⟩
          · replace h := h.2 hc
            refine V_iconst (v := 1) dX8_add_82 (by decide) ?_
            refine V_goto 111 dX8_add_83 rfl ?_
            refine V_callVi (st := []) [.int 1] dX8_add_111 ok_mX8_goesWell rfl ml_RX8_112 in_mX8_goesWell se_mX8_goesWell (hS.n 51 rfl) (hS.k 51 8 rfl) (by decide) rfl (Nat.le_of_ble_eq_true rfl) (by decide) (by decide) (by decide) (s_mX8_goesWell hS h) (fun r39 I38 J9 h => ?_)
            obtain ⟨rfl, h⟩ := h
            refine V_if_ne 119 dX8_add_114 rfl (fun hc => ?_) (fun hc => ?_)
            · replace h := h.1 hc
              refine V_bipush (v := 10) dX8_add_119 (by decide) ?_
              refine V_iload_n dX8_add_121 rfl rfl ?_
              refine V_imul dX8_add_122 ?_
              refine V_aload_n dX8_add_123 rfl rfl ?_
              refine V_getr dX8_add_124 fl_RX8_13 (hS.n 51 rfl) (hS.k 51 8 rfl) rfl (hS.r 51 3 53 rfl) ?_
              refine V_iload_n dX8_add_127 rfl rfl ?_
              obtain ⟨hb, h⟩ := h
              refine V_iald dX8_add_128 (hS.n 53 rfl) (hS.k 53 9 rfl) (by rw [(hS.z 53 4 rfl)]; exact hb) ?_
              refine V_iadd dX8_add_129 ?_
              refine V_iconst (v := 3) dX8_add_130 (by decide) ?_
              refine V_imul dX8_add_131 ?_
              refine V_topi (fun v40 e_v40 => ?_)
              replace h := h v40 e_v40
              refine V_istore (lo2 := [(7, .int v40), (6, .int 0), (5, .int r1), (0, .ref 51), (1, .int a1), (2, .int a2), (3, .int a3), (4, .int a4)]) dX8_add_132 (by decide) rfl ?_
              refine V_aload_n dX8_add_134 rfl rfl ?_
              refine V_getr dX8_add_135 fl_RX8_16 (hS.n 51 rfl) (hS.k 51 8 rfl) rfl (hS.r 51 4 54 rfl) ?_
              refine V_iload dX8_add_138 rfl ?_
              refine V_iload_n dX8_add_140 rfl rfl ?_
              obtain ⟨hb, h⟩ := h
              refine V_iast dX8_add_141 (hS.n 54 rfl) (hS.k 54 9 rfl) (by rw [(hS.z 54 120 rfl)]; exact hb) ?_
              refine V_memI (fun I41 e_I41 => ?_)
              replace h := h I41 e_I41
              refine V_aload_n dX8_add_142 rfl rfl ?_
              refine V_getr dX8_add_143 fl_RX8_16 (hS.n 51 rfl) (hS.k 51 8 rfl) rfl (hS.r 51 4 54 rfl) ?_
              refine V_iload dX8_add_146 rfl ?_
              refine V_iconst (v := 1) dX8_add_148 (by decide) ?_
              refine V_iadd dX8_add_149 ?_
              refine V_iload_n dX8_add_150 rfl rfl ?_
              obtain ⟨hb, h⟩ := h
              refine V_iast dX8_add_151 (hS.n 54 rfl) (hS.k 54 9 rfl) (by rw [(hS.z 54 120 rfl)]; exact hb) ?_
              refine V_memI (fun I42 e_I42 => ?_)
              replace h := h I42 e_I42
              refine V_aload_n dX8_add_152 rfl rfl ?_
              refine V_getr dX8_add_153 fl_RX8_16 (hS.n 51 rfl) (hS.k 51 8 rfl) rfl (hS.r 51 4 54 rfl) ?_
              refine V_iload dX8_add_156 rfl ?_
              refine V_iconst (v := 2) dX8_add_158 (by decide) ?_
              refine V_iadd dX8_add_159 ?_
              refine V_iload dX8_add_160 rfl ?_
              obtain ⟨hb, h⟩ := h
              refine V_iast dX8_add_162 (hS.n 54 rfl) (hS.k 54 9 rfl) (by rw [(hS.z 54 120 rfl)]; exact hb) ?_
              refine V_memI (fun I43 e_I43 => ?_)
              replace h := h I43 e_I43
              refine V_aload_n dX8_add_163 rfl rfl ?_
              refine V_getr dX8_add_164 fl_RX8_13 (hS.n 51 rfl) (hS.k 51 8 rfl) rfl (hS.r 51 3 53 rfl) ?_
              refine V_iload_n dX8_add_167 rfl rfl ?_
              refine V_dup2 dX8_add_168 rfl rfl ?_
              obtain ⟨hb, h⟩ := h
              refine V_iald dX8_add_169 (hS.n 53 rfl) (hS.k 53 9 rfl) (by rw [(hS.z 53 4 rfl)]; exact hb) ?_
              refine V_iconst (v := 1) dX8_add_170 (by decide) ?_
              refine V_iadd dX8_add_171 ?_
              obtain ⟨hb, h⟩ := h
              refine V_iast dX8_add_172 (hS.n 53 rfl) (hS.k 53 9 rfl) (by rw [(hS.z 53 4 rfl)]; exact hb) ?_
              refine V_memI (fun I44 e_I44 => ?_)
              replace h := h I44 e_I44
              refine V_aload_n dX8_add_173 rfl rfl ?_
              refine V_getr dX8_add_174 fl_RX8_13 (hS.n 51 rfl) (hS.k 51 8 rfl) rfl (hS.r 51 3 53 rfl) ?_
              refine V_iload_n dX8_add_177 rfl rfl ?_
              obtain ⟨hb, h⟩ := h
              refine V_iald dX8_add_178 (hS.n 53 rfl) (hS.k 53 9 rfl) (by rw [(hS.z 53 4 rfl)]; exact hb) ?_
              exact V_iret dX8_add_179 rfl (by decide) (by decide) ⟨_, rfl, rfl, rfl, h⟩
            · replace h := h.2 hc
              refine V_iconst (v := 0) dX8_add_117 (by decide) ?_
              exact V_iret dX8_add_118 rfl (by decide) (by decide) ⟨_, rfl, rfl, rfl, h⟩
        · replace h := h.2 hc
          refine V_aload_n dX8_add_43 rfl rfl ?_
          refine V_getr dX8_add_44 fl_RX8_9 (hS.n 51 rfl) (hS.k 51 8 rfl) rfl (hS.r 51 2 52 rfl) ?_
          refine V_iload_n dX8_add_47 rfl rfl ?_
          obtain ⟨hb, h⟩ := h
          refine V_iald dX8_add_48 (hS.n 52 rfl) (hS.k 52 9 rfl) (by rw [(hS.z 52 4 rfl)]; exact hb) ?_
          refine V_iconst (v := 2) dX8_add_49 (by decide) ?_
          refine V_icmp_le 64 dX8_add_50 rfl (fun hc => ?_) (fun hc => ?_)
          · replace h := h.1 hc
            refine V_iload dX8_add_64 rfl ?_
            refine V_if_ne 73 dX8_add_66 rfl (fun hc => ?_) (fun hc => ?_)
            · replace h := h.1 hc
              refine V_iconst (v := 0) dX8_add_73 (by decide) ?_
              refine V_istore (lo2 := [(6, .int 0), (5, .int r1), (0, .ref 51), (1, .int a1), (2, .int a2), (3, .int a3), (4, .int a4)]) dX8_add_74 (by decide) rfl ?_
              refine V_aload_n dX8_add_76 rfl rfl ?_
              refine V_iload dX8_add_77 rfl ?_
              refine V_if_ne 86 dX8_add_79 rfl (fun hc => ?_) (fun hc => ?_)
              · replace h := h.1 hc
                refine V_iload dX8_add_86 rfl ?_
                refine V_if_ne 95 dX8_add_88 rfl (fun hc => ?_) (fun hc => ?_)
                · first | exact absurd hc (by decide) | exact absurd (by decide) hc
                · refine V_iconst (v := 2) dX8_add_91 (by decide) ?_
                  refine V_goto 111 dX8_add_92 rfl ?_
                  refine V_callVi (st := []) [.int 2] dX8_add_111 ok_mX8_goesWell rfl ml_RX8_112 in_mX8_goesWell se_mX8_goesWell (hS.n 51 rfl) (hS.k 51 8 rfl) (by decide) rfl (Nat.le_of_ble_eq_true rfl) (by decide) (by decide) (by decide) (s_mX8_goesWell hS h) (fun r46 I45 J9 h => ?_)
                  obtain ⟨rfl, h⟩ := h
                  refine V_if_ne 119 dX8_add_114 rfl (fun hc => ?_) (fun hc => ?_)
                  · replace h := h.1 hc
                    refine V_bipush (v := 10) dX8_add_119 (by decide) ?_
                    refine V_iload_n dX8_add_121 rfl rfl ?_
                    refine V_imul dX8_add_122 ?_
                    refine V_aload_n dX8_add_123 rfl rfl ?_
                    refine V_getr dX8_add_124 fl_RX8_13 (hS.n 51 rfl) (hS.k 51 8 rfl) rfl (hS.r 51 3 53 rfl) ?_
                    refine V_iload_n dX8_add_127 rfl rfl ?_
                    obtain ⟨hb, h⟩ := h
                    refine V_iald dX8_add_128 (hS.n 53 rfl) (hS.k 53 9 rfl) (by rw [(hS.z 53 4 rfl)]; exact hb) ?_
                    refine V_iadd dX8_add_129 ?_
                    refine V_iconst (v := 3) dX8_add_130 (by decide) ?_
                    refine V_imul dX8_add_131 ?_
                    refine V_topi (fun v47 e_v47 => ?_)
                    replace h := h v47 e_v47
                    refine V_istore (lo2 := [(7, .int v47), (6, .int 0), (5, .int r1), (0, .ref 51), (1, .int a1), (2, .int a2), (3, .int a3), (4, .int a4)]) dX8_add_132 (by decide) rfl ?_
                    refine V_aload_n dX8_add_134 rfl rfl ?_
                    refine V_getr dX8_add_135 fl_RX8_16 (hS.n 51 rfl) (hS.k 51 8 rfl) rfl (hS.r 51 4 54 rfl) ?_
                    refine V_iload dX8_add_138 rfl ?_
                    refine V_iload_n dX8_add_140 rfl rfl ?_
                    obtain ⟨hb, h⟩ := h
                    refine V_iast dX8_add_141 (hS.n 54 rfl) (hS.k 54 9 rfl) (by rw [(hS.z 54 120 rfl)]; exact hb) ?_
                    refine V_memI (fun I48 e_I48 => ?_)
                    replace h := h I48 e_I48
                    refine V_aload_n dX8_add_142 rfl rfl ?_
                    refine V_getr dX8_add_143 fl_RX8_16 (hS.n 51 rfl) (hS.k 51 8 rfl) rfl (hS.r 51 4 54 rfl) ?_
                    refine V_iload dX8_add_146 rfl ?_
                    refine V_iconst (v := 1) dX8_add_148 (by decide) ?_
                    refine V_iadd dX8_add_149 ?_
                    refine V_iload_n dX8_add_150 rfl rfl ?_
                    obtain ⟨hb, h⟩ := h
                    refine V_iast dX8_add_151 (hS.n 54 rfl) (hS.k 54 9 rfl) (by rw [(hS.z 54 120 rfl)]; exact hb) ?_
                    refine V_memI (fun I49 e_I49 => ?_)
                    replace h := h I49 e_I49
                    refine V_aload_n dX8_add_152 rfl rfl ?_
                    refine V_getr dX8_add_153 fl_RX8_16 (hS.n 51 rfl) (hS.k 51 8 rfl) rfl (hS.r 51 4 54 rfl) ?_
                    refine V_iload dX8_add_156 rfl ?_
                    refine V_iconst (v := 2) dX8_add_158 (by decide) ?_
                    refine V_iadd dX8_add_159 ?_
                    refine V_iload dX8_add_160 rfl ?_
                    obtain ⟨hb, h⟩ := h
                    refine V_iast dX8_add_162 (hS.n 54 rfl) (hS.k 54 9 rfl) (by rw [(hS.z 54 120 rfl)]; exact hb) ?_
                    refine V_memI (fun I50 e_I50 => ?_)
                    replace h := h I50 e_I50
                    refine V_aload_n dX8_add_163 rfl rfl ?_
                    refine V_getr dX8_add_164 fl_RX8_13 (hS.n 51 rfl) (hS.k 51 8 rfl) rfl (hS.r 51 3 53 rfl) ?_
                    refine V_iload_n dX8_add_167 rfl rfl ?_
                    refine V_dup2 dX8_add_168 rfl rfl ?_
                    obtain ⟨hb, h⟩ := h
                    refine V_iald dX8_add_169 (hS.n 53 rfl) (hS.k 53 9 rfl) (by rw [(hS.z 53 4 rfl)]; exact hb) ?_
                    refine V_iconst (v := 1) dX8_add_170 (by decide) ?_
                    refine V_iadd dX8_add_171 ?_
                    obtain ⟨hb, h⟩ := h
                    refine V_iast dX8_add_172 (hS.n 53 rfl) (hS.k 53 9 rfl) (by rw [(hS.z 53 4 rfl)]; exact hb) ?_
                    refine V_memI (fun I51 e_I51 => ?_)
                    replace h := h I51 e_I51
                    refine V_aload_n dX8_add_173 rfl rfl ?_
                    refine V_getr dX8_add_174 fl_RX8_13 (hS.n 51 rfl) (hS.k 51 8 rfl) rfl (hS.r 51 3 53 rfl) ?_
                    refine V_iload_n dX8_add_177 rfl rfl ?_
                    obtain ⟨hb, h⟩ := h
                    refine V_iald dX8_add_178 (hS.n 53 rfl) (hS.k 53 9 rfl) (by rw [(hS.z 53 4 rfl)]; exact hb) ?_
                    exact V_iret dX8_add_179 rfl (by decide) (by decide) ⟨_, rfl, rfl, rfl, h⟩
                  · replace h := h.2 hc
                    refine V_iconst (v := 0) dX8_add_117 (by decide) ?_
                    exact V_iret dX8_add_118 rfl (by decide) (by decide) ⟨_, rfl, rfl, rfl, h⟩
              · replace h := h.2 hc
                refine V_iconst (v := 1) dX8_add_82 (by decide) ?_
                refine V_goto 111 dX8_add_83 rfl ?_
                refine V_callVi (st := []) [.int 1] dX8_add_111 ok_mX8_goesWell rfl ml_RX8_112 in_mX8_goesWell se_mX8_goesWell (hS.n 51 rfl) (hS.k 51 8 rfl) (by decide) rfl (Nat.le_of_ble_eq_true rfl) (by decide) (by decide) (by decide) (s_mX8_goesWell hS h) (fun r53 I52 J9 h => ?_)
                obtain ⟨rfl, h⟩ := h
                refine V_if_ne 119 dX8_add_114 rfl (fun hc => ?_) (fun hc => ?_)
                · replace h := h.1 hc
                  refine V_bipush (v := 10) dX8_add_119 (by decide) ?_
                  refine V_iload_n dX8_add_121 rfl rfl ?_
                  refine V_imul dX8_add_122 ?_
                  refine V_aload_n dX8_add_123 rfl rfl ?_
                  refine V_getr dX8_add_124 fl_RX8_13 (hS.n 51 rfl) (hS.k 51 8 rfl) rfl (hS.r 51 3 53 rfl) ?_
                  refine V_iload_n dX8_add_127 rfl rfl ?_
                  obtain ⟨hb, h⟩ := h
                  refine V_iald dX8_add_128 (hS.n 53 rfl) (hS.k 53 9 rfl) (by rw [(hS.z 53 4 rfl)]; exact hb) ?_
                  refine V_iadd dX8_add_129 ?_
                  refine V_iconst (v := 3) dX8_add_130 (by decide) ?_
                  refine V_imul dX8_add_131 ?_
                  refine V_topi (fun v54 e_v54 => ?_)
                  replace h := h v54 e_v54
                  refine V_istore (lo2 := [(7, .int v54), (6, .int 0), (5, .int r1), (0, .ref 51), (1, .int a1), (2, .int a2), (3, .int a3), (4, .int a4)]) dX8_add_132 (by decide) rfl ?_
                  refine V_aload_n dX8_add_134 rfl rfl ?_
                  refine V_getr dX8_add_135 fl_RX8_16 (hS.n 51 rfl) (hS.k 51 8 rfl) rfl (hS.r 51 4 54 rfl) ?_
                  refine V_iload dX8_add_138 rfl ?_
                  refine V_iload_n dX8_add_140 rfl rfl ?_
                  obtain ⟨hb, h⟩ := h
                  refine V_iast dX8_add_141 (hS.n 54 rfl) (hS.k 54 9 rfl) (by rw [(hS.z 54 120 rfl)]; exact hb) ?_
                  refine V_memI (fun I55 e_I55 => ?_)
                  replace h := h I55 e_I55
                  refine V_aload_n dX8_add_142 rfl rfl ?_
                  refine V_getr dX8_add_143 fl_RX8_16 (hS.n 51 rfl) (hS.k 51 8 rfl) rfl (hS.r 51 4 54 rfl) ?_
                  refine V_iload dX8_add_146 rfl ?_
                  refine V_iconst (v := 1) dX8_add_148 (by decide) ?_
                  refine V_iadd dX8_add_149 ?_
                  refine V_iload_n dX8_add_150 rfl rfl ?_
                  obtain ⟨hb, h⟩ := h
                  refine V_iast dX8_add_151 (hS.n 54 rfl) (hS.k 54 9 rfl) (by rw [(hS.z 54 120 rfl)]; exact hb) ?_
                  refine V_memI (fun I56 e_I56 => ?_)
                  replace h := h I56 e_I56
                  refine V_aload_n dX8_add_152 rfl rfl ?_
                  refine V_getr dX8_add_153 fl_RX8_16 (hS.n 51 rfl) (hS.k 51 8 rfl) rfl (hS.r 51 4 54 rfl) ?_
                  refine V_iload dX8_add_156 rfl ?_
                  refine V_iconst (v := 2) dX8_add_158 (by decide) ?_
                  refine V_iadd dX8_add_159 ?_
                  refine V_iload dX8_add_160 rfl ?_
                  obtain ⟨hb, h⟩ := h
                  refine V_iast dX8_add_162 (hS.n 54 rfl) (hS.k 54 9 rfl) (by rw [(hS.z 54 120 rfl)]; exact hb) ?_
                  refine V_memI (fun I57 e_I57 => ?_)
                  replace h := h I57 e_I57
                  refine V_aload_n dX8_add_163 rfl rfl ?_
                  refine V_getr dX8_add_164 fl_RX8_13 (hS.n 51 rfl) (hS.k 51 8 rfl) rfl (hS.r 51 3 53 rfl) ?_
                  refine V_iload_n dX8_add_167 rfl rfl ?_
                  refine V_dup2 dX8_add_168 rfl rfl ?_
                  obtain ⟨hb, h⟩ := h
                  refine V_iald dX8_add_169 (hS.n 53 rfl) (hS.k 53 9 rfl) (by rw [(hS.z 53 4 rfl)]; exact hb) ?_
                  refine V_iconst (v := 1) dX8_add_170 (by decide) ?_
                  refine V_iadd dX8_add_171 ?_
                  obtain ⟨hb, h⟩ := h
                  refine V_iast dX8_add_172 (hS.n 53 rfl) (hS.k 53 9 rfl) (by rw [(hS.z 53 4 rfl)]; exact hb) ?_
                  refine V_memI (fun I58 e_I58 => ?_)
                  replace h := h I58 e_I58
                  refine V_aload_n dX8_add_173 rfl rfl ?_
                  refine V_getr dX8_add_174 fl_RX8_13 (hS.n 51 rfl) (hS.k 51 8 rfl) rfl (hS.r 51 3 53 rfl) ?_
                  refine V_iload_n dX8_add_177 rfl rfl ?_
                  obtain ⟨hb, h⟩ := h
                  refine V_iald dX8_add_178 (hS.n 53 rfl) (hS.k 53 9 rfl) (by rw [(hS.z 53 4 rfl)]; exact hb) ?_
                  exact V_iret dX8_add_179 rfl (by decide) (by decide) ⟨_, rfl, rfl, rfl, h⟩
                · replace h := h.2 hc
                  refine V_iconst (v := 0) dX8_add_117 (by decide) ?_
                  exact V_iret dX8_add_118 rfl (by decide) (by decide) ⟨_, rfl, rfl, rfl, h⟩
            · replace h := h.2 hc
              refine V_iconst (v := 1) dX8_add_69 (by decide) ?_
              refine V_goto 74 dX8_add_70 rfl ?_
              refine V_istore (lo2 := [(6, .int 1), (5, .int r1), (0, .ref 51), (1, .int a1), (2, .int a2), (3, .int a3), (4, .int a4)]) dX8_add_74 (by decide) rfl ?_
              refine V_aload_n dX8_add_76 rfl rfl ?_
              refine V_iload dX8_add_77 rfl ?_
              refine V_if_ne 86 dX8_add_79 rfl (fun hc => ?_) (fun hc => ?_)
              · replace h := h.1 hc
                refine V_iload dX8_add_86 rfl ?_
                refine V_if_ne 95 dX8_add_88 rfl (fun hc => ?_) (fun hc => ?_)
                · refine V_aload_n dX8_add_95 rfl rfl ?_
                  refine V_getr dX8_add_96 fl_RX8_13 (hS.n 51 rfl) (hS.k 51 8 rfl) rfl (hS.r 51 3 53 rfl) ?_
                  refine V_iload_n dX8_add_99 rfl rfl ?_
                  obtain ⟨hb, h⟩ := h
                  refine V_iald dX8_add_100 (hS.n 53 rfl) (hS.k 53 9 rfl) (by rw [(hS.z 53 4 rfl)]; exact hb) ?_
                  refine V_bipush (v := 10) dX8_add_101 (by decide) ?_
                  refine V_icmp_ne 110 dX8_add_103 rfl (fun hc => ?_) (fun hc => ?_)
                  · replace h := h.1 hc
                    refine V_iconst (v := 0) dX8_add_110 (by decide) ?_
                    refine V_callVi (st := []) [.int 0] dX8_add_111 ok_mX8_goesWell rfl ml_RX8_112 in_mX8_goesWell se_mX8_goesWell (hS.n 51 rfl) (hS.k 51 8 rfl) (by decide) rfl (Nat.le_of_ble_eq_true rfl) (by decide) (by decide) (by decide) (s_mX8_goesWell hS h) (fun r60 I59 J9 h => ?_)
                    obtain ⟨rfl, h⟩ := h
                    refine V_if_ne 119 dX8_add_114 rfl (fun hc => ?_) (fun hc => ?_)
                    · replace h := h.1 hc
                      refine V_bipush (v := 10) dX8_add_119 (by decide) ?_
                      refine V_iload_n dX8_add_121 rfl rfl ?_
                      refine V_imul dX8_add_122 ?_
                      refine V_aload_n dX8_add_123 rfl rfl ?_
                      refine V_getr dX8_add_124 fl_RX8_13 (hS.n 51 rfl) (hS.k 51 8 rfl) rfl (hS.r 51 3 53 rfl) ?_
                      refine V_iload_n dX8_add_127 rfl rfl ?_
                      obtain ⟨hb, h⟩ := h
                      refine V_iald dX8_add_128 (hS.n 53 rfl) (hS.k 53 9 rfl) (by rw [(hS.z 53 4 rfl)]; exact hb) ?_
                      refine V_iadd dX8_add_129 ?_
                      refine V_iconst (v := 3) dX8_add_130 (by decide) ?_
                      refine V_imul dX8_add_131 ?_
                      refine V_topi (fun v61 e_v61 => ?_)
                      replace h := h v61 e_v61
                      refine V_istore (lo2 := [(7, .int v61), (6, .int 1), (5, .int r1), (0, .ref 51), (1, .int a1), (2, .int a2), (3, .int a3), (4, .int a4)]) dX8_add_132 (by decide) rfl ?_
                      refine V_aload_n dX8_add_134 rfl rfl ?_
                      refine V_getr dX8_add_135 fl_RX8_16 (hS.n 51 rfl) (hS.k 51 8 rfl) rfl (hS.r 51 4 54 rfl) ?_
                      refine V_iload dX8_add_138 rfl ?_
                      refine V_iload_n dX8_add_140 rfl rfl ?_
                      obtain ⟨hb, h⟩ := h
                      refine V_iast dX8_add_141 (hS.n 54 rfl) (hS.k 54 9 rfl) (by rw [(hS.z 54 120 rfl)]; exact hb) ?_
                      refine V_memI (fun I62 e_I62 => ?_)
                      replace h := h I62 e_I62
                      refine V_aload_n dX8_add_142 rfl rfl ?_
                      refine V_getr dX8_add_143 fl_RX8_16 (hS.n 51 rfl) (hS.k 51 8 rfl) rfl (hS.r 51 4 54 rfl) ?_
                      refine V_iload dX8_add_146 rfl ?_
                      refine V_iconst (v := 1) dX8_add_148 (by decide) ?_
                      refine V_iadd dX8_add_149 ?_
                      refine V_iload_n dX8_add_150 rfl rfl ?_
                      obtain ⟨hb, h⟩ := h
                      refine V_iast dX8_add_151 (hS.n 54 rfl) (hS.k 54 9 rfl) (by rw [(hS.z 54 120 rfl)]; exact hb) ?_
                      refine V_memI (fun I63 e_I63 => ?_)
                      replace h := h I63 e_I63
                      refine V_aload_n dX8_add_152 rfl rfl ?_
                      refine V_getr dX8_add_153 fl_RX8_16 (hS.n 51 rfl) (hS.k 51 8 rfl) rfl (hS.r 51 4 54 rfl) ?_
                      refine V_iload dX8_add_156 rfl ?_
                      refine V_iconst (v := 2) dX8_add_158 (by decide) ?_
                      refine V_iadd dX8_add_159 ?_
                      refine V_iload dX8_add_160 rfl ?_
                      obtain ⟨hb, h⟩ := h
                      refine V_iast dX8_add_162 (hS.n 54 rfl) (hS.k 54 9 rfl) (by rw [(hS.z 54 120 rfl)]; exact hb) ?_
                      refine V_memI (fun I64 e_I64 => ?_)
                      replace h := h I64 e_I64
                      refine V_aload_n dX8_add_163 rfl rfl ?_
                      refine V_getr dX8_add_164 fl_RX8_13 (hS.n 51 rfl) (hS.k 51 8 rfl) rfl (hS.r 51 3 53 rfl) ?_
                      refine V_iload_n dX8_add_167 rfl rfl ?_
                      refine V_dup2 dX8_add_168 rfl rfl ?_
                      obtain ⟨hb, h⟩ := h
                      refine V_iald dX8_add_169 (hS.n 53 rfl) (hS.k 53 9 rfl) (by rw [(hS.z 53 4 rfl)]; exact hb) ?_
                      refine V_iconst (v := 1) dX8_add_170 (by decide) ?_
                      refine V_iadd dX8_add_171 ?_
                      obtain ⟨hb, h⟩ := h
                      refine V_iast dX8_add_172 (hS.n 53 rfl) (hS.k 53 9 rfl) (by rw [(hS.z 53 4 rfl)]; exact hb) ?_
                      refine V_memI (fun I65 e_I65 => ?_)
                      replace h := h I65 e_I65
                      refine V_aload_n dX8_add_173 rfl rfl ?_
                      refine V_getr dX8_add_174 fl_RX8_13 (hS.n 51 rfl) (hS.k 51 8 rfl) rfl (hS.r 51 3 53 rfl) ?_
                      refine V_iload_n dX8_add_177 rfl rfl ?_
                      obtain ⟨hb, h⟩ := h
                      refine V_iald dX8_add_178 (hS.n 53 rfl) (hS.k 53 9 rfl) (by rw [(hS.z 53 4 rfl)]; exact hb) ?_
                      exact V_iret dX8_add_179 rfl (by decide) (by decide) ⟨_, rfl, rfl, rfl, h⟩
                    · replace h := h.2 hc
                      refine V_iconst (v := 0) dX8_add_117 (by decide) ?_
                      exact V_iret dX8_add_118 rfl (by decide) (by decide) ⟨_, rfl, rfl, rfl, h⟩
                  · replace h := h.2 hc
                    refine V_iconst (v := 3) dX8_add_106 (by decide) ?_
                    refine V_goto 111 dX8_add_107 rfl ?_
                    refine V_callVi (st := []) [.int 3] dX8_add_111 ok_mX8_goesWell rfl ml_RX8_112 in_mX8_goesWell se_mX8_goesWell (hS.n 51 rfl) (hS.k 51 8 rfl) (by decide) rfl (Nat.le_of_ble_eq_true rfl) (by decide) (by decide) (by decide) (s_mX8_goesWell hS h) (fun r67 I66 J9 h => ?_)
                    obtain ⟨rfl, h⟩ := h
                    refine V_if_ne 119 dX8_add_114 rfl (fun hc => ?_) (fun hc => ?_)
                    · replace h := h.1 hc
                      refine V_bipush (v := 10) dX8_add_119 (by decide) ?_
                      refine V_iload_n dX8_add_121 rfl rfl ?_
                      refine V_imul dX8_add_122 ?_
                      refine V_aload_n dX8_add_123 rfl rfl ?_
                      refine V_getr dX8_add_124 fl_RX8_13 (hS.n 51 rfl) (hS.k 51 8 rfl) rfl (hS.r 51 3 53 rfl) ?_
                      refine V_iload_n dX8_add_127 rfl rfl ?_
                      obtain ⟨hb, h⟩ := h
                      refine V_iald dX8_add_128 (hS.n 53 rfl) (hS.k 53 9 rfl) (by rw [(hS.z 53 4 rfl)]; exact hb) ?_
                      refine V_iadd dX8_add_129 ?_
                      refine V_iconst (v := 3) dX8_add_130 (by decide) ?_
                      refine V_imul dX8_add_131 ?_
                      refine V_topi (fun v68 e_v68 => ?_)
                      replace h := h v68 e_v68
                      refine V_istore (lo2 := [(7, .int v68), (6, .int 1), (5, .int r1), (0, .ref 51), (1, .int a1), (2, .int a2), (3, .int a3), (4, .int a4)]) dX8_add_132 (by decide) rfl ?_
                      refine V_aload_n dX8_add_134 rfl rfl ?_
                      refine V_getr dX8_add_135 fl_RX8_16 (hS.n 51 rfl) (hS.k 51 8 rfl) rfl (hS.r 51 4 54 rfl) ?_
                      refine V_iload dX8_add_138 rfl ?_
                      refine V_iload_n dX8_add_140 rfl rfl ?_
                      obtain ⟨hb, h⟩ := h
                      refine V_iast dX8_add_141 (hS.n 54 rfl) (hS.k 54 9 rfl) (by rw [(hS.z 54 120 rfl)]; exact hb) ?_
                      refine V_memI (fun I69 e_I69 => ?_)
                      replace h := h I69 e_I69
                      refine V_aload_n dX8_add_142 rfl rfl ?_
                      refine V_getr dX8_add_143 fl_RX8_16 (hS.n 51 rfl) (hS.k 51 8 rfl) rfl (hS.r 51 4 54 rfl) ?_
                      refine V_iload dX8_add_146 rfl ?_
                      refine V_iconst (v := 1) dX8_add_148 (by decide) ?_
                      refine V_iadd dX8_add_149 ?_
                      refine V_iload_n dX8_add_150 rfl rfl ?_
                      obtain ⟨hb, h⟩ := h
                      refine V_iast dX8_add_151 (hS.n 54 rfl) (hS.k 54 9 rfl) (by rw [(hS.z 54 120 rfl)]; exact hb) ?_
                      refine V_memI (fun I70 e_I70 => ?_)
                      replace h := h I70 e_I70
                      refine V_aload_n dX8_add_152 rfl rfl ?_
                      refine V_getr dX8_add_153 fl_RX8_16 (hS.n 51 rfl) (hS.k 51 8 rfl) rfl (hS.r 51 4 54 rfl) ?_
                      refine V_iload dX8_add_156 rfl ?_
                      refine V_iconst (v := 2) dX8_add_158 (by decide) ?_
                      refine V_iadd dX8_add_159 ?_
                      refine V_iload dX8_add_160 rfl ?_
                      obtain ⟨hb, h⟩ := h
                      refine V_iast dX8_add_162 (hS.n 54 rfl) (hS.k 54 9 rfl) (by rw [(hS.z 54 120 rfl)]; exact hb) ?_
                      refine V_memI (fun I71 e_I71 => ?_)
                      replace h := h I71 e_I71
                      refine V_aload_n dX8_add_163 rfl rfl ?_
                      refine V_getr dX8_add_164 fl_RX8_13 (hS.n 51 rfl) (hS.k 51 8 rfl) rfl (hS.r 51 3 53 rfl) ?_
                      refine V_iload_n dX8_add_167 rfl rfl ?_
                      refine V_dup2 dX8_add_168 rfl rfl ?_
                      obtain ⟨hb, h⟩ := h
                      refine V_iald dX8_add_169 (hS.n 53 rfl) (hS.k 53 9 rfl) (by rw [(hS.z 53 4 rfl)]; exact hb) ?_
                      refine V_iconst (v := 1) dX8_add_170 (by decide) ?_
                      refine V_iadd dX8_add_171 ?_
                      obtain ⟨hb, h⟩ := h
                      refine V_iast dX8_add_172 (hS.n 53 rfl) (hS.k 53 9 rfl) (by rw [(hS.z 53 4 rfl)]; exact hb) ?_
                      refine V_memI (fun I72 e_I72 => ?_)
                      replace h := h I72 e_I72
                      refine V_aload_n dX8_add_173 rfl rfl ?_
                      refine V_getr dX8_add_174 fl_RX8_13 (hS.n 51 rfl) (hS.k 51 8 rfl) rfl (hS.r 51 3 53 rfl) ?_
                      refine V_iload_n dX8_add_177 rfl rfl ?_
                      obtain ⟨hb, h⟩ := h
                      refine V_iald dX8_add_178 (hS.n 53 rfl) (hS.k 53 9 rfl) (by rw [(hS.z 53 4 rfl)]; exact hb) ?_
                      exact V_iret dX8_add_179 rfl (by decide) (by decide) ⟨_, rfl, rfl, rfl, h⟩
                    · replace h := h.2 hc
                      refine V_iconst (v := 0) dX8_add_117 (by decide) ?_
                      exact V_iret dX8_add_118 rfl (by decide) (by decide) ⟨_, rfl, rfl, rfl, h⟩
                · first | exact absurd hc (by decide) | exact absurd (by decide) hc
              · replace h := h.2 hc
                refine V_iconst (v := 1) dX8_add_82 (by decide) ?_
                refine V_goto 111 dX8_add_83 rfl ?_
                refine V_callVi (st := []) [.int 1] dX8_add_111 ok_mX8_goesWell rfl ml_RX8_112 in_mX8_goesWell se_mX8_goesWell (hS.n 51 rfl) (hS.k 51 8 rfl) (by decide) rfl (Nat.le_of_ble_eq_true rfl) (by decide) (by decide) (by decide) (s_mX8_goesWell hS h) (fun r74 I73 J9 h => ?_)
                obtain ⟨rfl, h⟩ := h
                refine V_if_ne 119 dX8_add_114 rfl (fun hc => ?_) (fun hc => ?_)
                · replace h := h.1 hc
                  refine V_bipush (v := 10) dX8_add_119 (by decide) ?_
                  refine V_iload_n dX8_add_121 rfl rfl ?_
                  refine V_imul dX8_add_122 ?_
                  refine V_aload_n dX8_add_123 rfl rfl ?_
                  refine V_getr dX8_add_124 fl_RX8_13 (hS.n 51 rfl) (hS.k 51 8 rfl) rfl (hS.r 51 3 53 rfl) ?_
                  refine V_iload_n dX8_add_127 rfl rfl ?_
                  obtain ⟨hb, h⟩ := h
                  refine V_iald dX8_add_128 (hS.n 53 rfl) (hS.k 53 9 rfl) (by rw [(hS.z 53 4 rfl)]; exact hb) ?_
                  refine V_iadd dX8_add_129 ?_
                  refine V_iconst (v := 3) dX8_add_130 (by decide) ?_
                  refine V_imul dX8_add_131 ?_
                  refine V_topi (fun v75 e_v75 => ?_)
                  replace h := h v75 e_v75
                  refine V_istore (lo2 := [(7, .int v75), (6, .int 1), (5, .int r1), (0, .ref 51), (1, .int a1), (2, .int a2), (3, .int a3), (4, .int a4)]) dX8_add_132 (by decide) rfl ?_
                  refine V_aload_n dX8_add_134 rfl rfl ?_
                  refine V_getr dX8_add_135 fl_RX8_16 (hS.n 51 rfl) (hS.k 51 8 rfl) rfl (hS.r 51 4 54 rfl) ?_
                  refine V_iload dX8_add_138 rfl ?_
                  refine V_iload_n dX8_add_140 rfl rfl ?_
                  obtain ⟨hb, h⟩ := h
                  refine V_iast dX8_add_141 (hS.n 54 rfl) (hS.k 54 9 rfl) (by rw [(hS.z 54 120 rfl)]; exact hb) ?_
                  refine V_memI (fun I76 e_I76 => ?_)
                  replace h := h I76 e_I76
                  refine V_aload_n dX8_add_142 rfl rfl ?_
                  refine V_getr dX8_add_143 fl_RX8_16 (hS.n 51 rfl) (hS.k 51 8 rfl) rfl (hS.r 51 4 54 rfl) ?_
                  refine V_iload dX8_add_146 rfl ?_
                  refine V_iconst (v := 1) dX8_add_148 (by decide) ?_
                  refine V_iadd dX8_add_149 ?_
                  refine V_iload_n dX8_add_150 rfl rfl ?_
                  obtain ⟨hb, h⟩ := h
                  refine V_iast dX8_add_151 (hS.n 54 rfl) (hS.k 54 9 rfl) (by rw [(hS.z 54 120 rfl)]; exact hb) ?_
                  refine V_memI (fun I77 e_I77 => ?_)
                  replace h := h I77 e_I77
                  refine V_aload_n dX8_add_152 rfl rfl ?_
                  refine V_getr dX8_add_153 fl_RX8_16 (hS.n 51 rfl) (hS.k 51 8 rfl) rfl (hS.r 51 4 54 rfl) ?_
                  refine V_iload dX8_add_156 rfl ?_
                  refine V_iconst (v := 2) dX8_add_158 (by decide) ?_
                  refine V_iadd dX8_add_159 ?_
                  refine V_iload dX8_add_160 rfl ?_
                  obtain ⟨hb, h⟩ := h
                  refine V_iast dX8_add_162 (hS.n 54 rfl) (hS.k 54 9 rfl) (by rw [(hS.z 54 120 rfl)]; exact hb) ?_
                  refine V_memI (fun I78 e_I78 => ?_)
                  replace h := h I78 e_I78
                  refine V_aload_n dX8_add_163 rfl rfl ?_
                  refine V_getr dX8_add_164 fl_RX8_13 (hS.n 51 rfl) (hS.k 51 8 rfl) rfl (hS.r 51 3 53 rfl) ?_
                  refine V_iload_n dX8_add_167 rfl rfl ?_
                  refine V_dup2 dX8_add_168 rfl rfl ?_
                  obtain ⟨hb, h⟩ := h
                  refine V_iald dX8_add_169 (hS.n 53 rfl) (hS.k 53 9 rfl) (by rw [(hS.z 53 4 rfl)]; exact hb) ?_
                  refine V_iconst (v := 1) dX8_add_170 (by decide) ?_
                  refine V_iadd dX8_add_171 ?_
                  obtain ⟨hb, h⟩ := h
                  refine V_iast dX8_add_172 (hS.n 53 rfl) (hS.k 53 9 rfl) (by rw [(hS.z 53 4 rfl)]; exact hb) ?_
                  refine V_memI (fun I79 e_I79 => ?_)
                  replace h := h I79 e_I79
                  refine V_aload_n dX8_add_173 rfl rfl ?_
                  refine V_getr dX8_add_174 fl_RX8_13 (hS.n 51 rfl) (hS.k 51 8 rfl) rfl (hS.r 51 3 53 rfl) ?_
                  refine V_iload_n dX8_add_177 rfl rfl ?_
                  obtain ⟨hb, h⟩ := h
                  refine V_iald dX8_add_178 (hS.n 53 rfl) (hS.k 53 9 rfl) (by rw [(hS.z 53 4 rfl)]; exact hb) ?_
                  exact V_iret dX8_add_179 rfl (by decide) (by decide) ⟨_, rfl, rfl, rfl, h⟩
                · replace h := h.2 hc
                  refine V_iconst (v := 0) dX8_add_117 (by decide) ?_
                  exact V_iret dX8_add_118 rfl (by decide) (by decide) ⟨_, rfl, rfl, rfl, h⟩
          · replace h := h.2 hc
            refine V_iload dX8_add_53 rfl ?_
            refine V_callSi (st := []) [.int a4] dX8_add_55 ok_mX8_isValue rfl ml_RX8_115 st_mX8_isValue (Nat.le_of_ble_eq_true rfl) (by decide) (by decide) (by decide) (s_mX8_isValue hS h) (fun r80 I9 J9 h => ?_)
            obtain ⟨rfl, rfl, h⟩ := h
            refine V_if_eq 73 dX8_add_58 rfl (fun hc => ?_) (fun hc => ?_)
            · replace h := h.1 hc
              refine V_iconst (v := 0) dX8_add_73 (by decide) ?_
              refine V_istore (lo2 := [(6, .int 0), (5, .int r1), (0, .ref 51), (1, .int a1), (2, .int a2), (3, .int a3), (4, .int a4)]) dX8_add_74 (by decide) rfl ?_
              refine V_aload_n dX8_add_76 rfl rfl ?_
              refine V_iload dX8_add_77 rfl ?_
              refine V_if_ne 86 dX8_add_79 rfl (fun hc => ?_) (fun hc => ?_)
              · replace h := h.1 hc
                refine V_iload dX8_add_86 rfl ?_
                refine V_if_ne 95 dX8_add_88 rfl (fun hc => ?_) (fun hc => ?_)
                · first | exact absurd hc (by decide) | exact absurd (by decide) hc
                · refine V_iconst (v := 2) dX8_add_91 (by decide) ?_
                  refine V_goto 111 dX8_add_92 rfl ?_
                  refine V_callVi (st := []) [.int 2] dX8_add_111 ok_mX8_goesWell rfl ml_RX8_112 in_mX8_goesWell se_mX8_goesWell (hS.n 51 rfl) (hS.k 51 8 rfl) (by decide) rfl (Nat.le_of_ble_eq_true rfl) (by decide) (by decide) (by decide) (s_mX8_goesWell hS h) (fun r82 I81 J9 h => ?_)
                  obtain ⟨rfl, h⟩ := h
                  refine V_if_ne 119 dX8_add_114 rfl (fun hc => ?_) (fun hc => ?_)
                  · replace h := h.1 hc
                    refine V_bipush (v := 10) dX8_add_119 (by decide) ?_
                    refine V_iload_n dX8_add_121 rfl rfl ?_
                    refine V_imul dX8_add_122 ?_
                    refine V_aload_n dX8_add_123 rfl rfl ?_
                    refine V_getr dX8_add_124 fl_RX8_13 (hS.n 51 rfl) (hS.k 51 8 rfl) rfl (hS.r 51 3 53 rfl) ?_
                    refine V_iload_n dX8_add_127 rfl rfl ?_
                    obtain ⟨hb, h⟩ := h
                    refine V_iald dX8_add_128 (hS.n 53 rfl) (hS.k 53 9 rfl) (by rw [(hS.z 53 4 rfl)]; exact hb) ?_
                    refine V_iadd dX8_add_129 ?_
                    refine V_iconst (v := 3) dX8_add_130 (by decide) ?_
                    refine V_imul dX8_add_131 ?_
                    refine V_topi (fun v83 e_v83 => ?_)
                    replace h := h v83 e_v83
                    refine V_istore (lo2 := [(7, .int v83), (6, .int 0), (5, .int r1), (0, .ref 51), (1, .int a1), (2, .int a2), (3, .int a3), (4, .int a4)]) dX8_add_132 (by decide) rfl ?_
                    refine V_aload_n dX8_add_134 rfl rfl ?_
                    refine V_getr dX8_add_135 fl_RX8_16 (hS.n 51 rfl) (hS.k 51 8 rfl) rfl (hS.r 51 4 54 rfl) ?_
                    refine V_iload dX8_add_138 rfl ?_
                    refine V_iload_n dX8_add_140 rfl rfl ?_
                    obtain ⟨hb, h⟩ := h
                    refine V_iast dX8_add_141 (hS.n 54 rfl) (hS.k 54 9 rfl) (by rw [(hS.z 54 120 rfl)]; exact hb) ?_
                    refine V_memI (fun I84 e_I84 => ?_)
                    replace h := h I84 e_I84
                    refine V_aload_n dX8_add_142 rfl rfl ?_
                    refine V_getr dX8_add_143 fl_RX8_16 (hS.n 51 rfl) (hS.k 51 8 rfl) rfl (hS.r 51 4 54 rfl) ?_
                    refine V_iload dX8_add_146 rfl ?_
                    refine V_iconst (v := 1) dX8_add_148 (by decide) ?_
                    refine V_iadd dX8_add_149 ?_
                    refine V_iload_n dX8_add_150 rfl rfl ?_
                    obtain ⟨hb, h⟩ := h
                    refine V_iast dX8_add_151 (hS.n 54 rfl) (hS.k 54 9 rfl) (by rw [(hS.z 54 120 rfl)]; exact hb) ?_
                    refine V_memI (fun I85 e_I85 => ?_)
                    replace h := h I85 e_I85
                    refine V_aload_n dX8_add_152 rfl rfl ?_
                    refine V_getr dX8_add_153 fl_RX8_16 (hS.n 51 rfl) (hS.k 51 8 rfl) rfl (hS.r 51 4 54 rfl) ?_
                    refine V_iload dX8_add_156 rfl ?_
                    refine V_iconst (v := 2) dX8_add_158 (by decide) ?_
                    refine V_iadd dX8_add_159 ?_
                    refine V_iload dX8_add_160 rfl ?_
                    obtain ⟨hb, h⟩ := h
                    refine V_iast dX8_add_162 (hS.n 54 rfl) (hS.k 54 9 rfl) (by rw [(hS.z 54 120 rfl)]; exact hb) ?_
                    refine V_memI (fun I86 e_I86 => ?_)
                    replace h := h I86 e_I86
                    refine V_aload_n dX8_add_163 rfl rfl ?_
                    refine V_getr dX8_add_164 fl_RX8_13 (hS.n 51 rfl) (hS.k 51 8 rfl) rfl (hS.r 51 3 53 rfl) ?_
                    refine V_iload_n dX8_add_167 rfl rfl ?_
                    refine V_dup2 dX8_add_168 rfl rfl ?_
                    obtain ⟨hb, h⟩ := h
                    refine V_iald dX8_add_169 (hS.n 53 rfl) (hS.k 53 9 rfl) (by rw [(hS.z 53 4 rfl)]; exact hb) ?_
                    refine V_iconst (v := 1) dX8_add_170 (by decide) ?_
                    refine V_iadd dX8_add_171 ?_
                    obtain ⟨hb, h⟩ := h
                    refine V_iast dX8_add_172 (hS.n 53 rfl) (hS.k 53 9 rfl) (by rw [(hS.z 53 4 rfl)]; exact hb) ?_
                    refine V_memI (fun I87 e_I87 => ?_)
                    replace h := h I87 e_I87
                    refine V_aload_n dX8_add_173 rfl rfl ?_
                    refine V_getr dX8_add_174 fl_RX8_13 (hS.n 51 rfl) (hS.k 51 8 rfl) rfl (hS.r 51 3 53 rfl) ?_
                    refine V_iload_n dX8_add_177 rfl rfl ?_
                    obtain ⟨hb, h⟩ := h
                    refine V_iald dX8_add_178 (hS.n 53 rfl) (hS.k 53 9 rfl) (by rw [(hS.z 53 4 rfl)]; exact hb) ?_
                    exact V_iret dX8_add_179 rfl (by decide) (by decide) ⟨_, rfl, rfl, rfl, h⟩
                  · replace h := h.2 hc
                    refine V_iconst (v := 0) dX8_add_117 (by decide) ?_
                    exact V_iret dX8_add_118 rfl (by decide) (by decide) ⟨_, rfl, rfl, rfl, h⟩
              · replace h := h.2 hc
                refine V_iconst (v := 1) dX8_add_82 (by decide) ?_
                refine V_goto 111 dX8_add_83 rfl ?_
                refine V_callVi (st := []) [.int 1] dX8_add_111 ok_mX8_goesWell rfl ml_RX8_112 in_mX8_goesWell se_mX8_goesWell (hS.n 51 rfl) (hS.k 51 8 rfl) (by decide) rfl (Nat.le_of_ble_eq_true rfl) (by decide) (by decide) (by decide) (s_mX8_goesWell hS h) (fun r89 I88 J9 h => ?_)
                obtain ⟨rfl, h⟩ := h
                refine V_if_ne 119 dX8_add_114 rfl (fun hc => ?_) (fun hc => ?_)
                · replace h := h.1 hc
                  refine V_bipush (v := 10) dX8_add_119 (by decide) ?_
                  refine V_iload_n dX8_add_121 rfl rfl ?_
                  refine V_imul dX8_add_122 ?_
                  refine V_aload_n dX8_add_123 rfl rfl ?_
                  refine V_getr dX8_add_124 fl_RX8_13 (hS.n 51 rfl) (hS.k 51 8 rfl) rfl (hS.r 51 3 53 rfl) ?_
                  refine V_iload_n dX8_add_127 rfl rfl ?_
                  obtain ⟨hb, h⟩ := h
                  refine V_iald dX8_add_128 (hS.n 53 rfl) (hS.k 53 9 rfl) (by rw [(hS.z 53 4 rfl)]; exact hb) ?_
                  refine V_iadd dX8_add_129 ?_
                  refine V_iconst (v := 3) dX8_add_130 (by decide) ?_
                  refine V_imul dX8_add_131 ?_
                  refine V_topi (fun v90 e_v90 => ?_)
                  replace h := h v90 e_v90
                  refine V_istore (lo2 := [(7, .int v90), (6, .int 0), (5, .int r1), (0, .ref 51), (1, .int a1), (2, .int a2), (3, .int a3), (4, .int a4)]) dX8_add_132 (by decide) rfl ?_
                  refine V_aload_n dX8_add_134 rfl rfl ?_
                  refine V_getr dX8_add_135 fl_RX8_16 (hS.n 51 rfl) (hS.k 51 8 rfl) rfl (hS.r 51 4 54 rfl) ?_
                  refine V_iload dX8_add_138 rfl ?_
                  refine V_iload_n dX8_add_140 rfl rfl ?_
                  obtain ⟨hb, h⟩ := h
                  refine V_iast dX8_add_141 (hS.n 54 rfl) (hS.k 54 9 rfl) (by rw [(hS.z 54 120 rfl)]; exact hb) ?_
                  refine V_memI (fun I91 e_I91 => ?_)
                  replace h := h I91 e_I91
                  refine V_aload_n dX8_add_142 rfl rfl ?_
                  refine V_getr dX8_add_143 fl_RX8_16 (hS.n 51 rfl) (hS.k 51 8 rfl) rfl (hS.r 51 4 54 rfl) ?_
                  refine V_iload dX8_add_146 rfl ?_
                  refine V_iconst (v := 1) dX8_add_148 (by decide) ?_
                  refine V_iadd dX8_add_149 ?_
                  refine V_iload_n dX8_add_150 rfl rfl ?_
                  obtain ⟨hb, h⟩ := h
                  refine V_iast dX8_add_151 (hS.n 54 rfl) (hS.k 54 9 rfl) (by rw [(hS.z 54 120 rfl)]; exact hb) ?_
                  refine V_memI (fun I92 e_I92 => ?_)
                  replace h := h I92 e_I92
                  refine V_aload_n dX8_add_152 rfl rfl ?_
                  refine V_getr dX8_add_153 fl_RX8_16 (hS.n 51 rfl) (hS.k 51 8 rfl) rfl (hS.r 51 4 54 rfl) ?_
                  refine V_iload dX8_add_156 rfl ?_
                  refine V_iconst (v := 2) dX8_add_158 (by decide) ?_
                  refine V_iadd dX8_add_159 ?_
                  refine V_iload dX8_add_160 rfl ?_
                  obtain ⟨hb, h⟩ := h
                  refine V_iast dX8_add_162 (hS.n 54 rfl) (hS.k 54 9 rfl) (by rw [(hS.z 54 120 rfl)]; exact hb) ?_
                  refine V_memI (fun I93 e_I93 => ?_)
                  replace h := h I93 e_I93
                  refine V_aload_n dX8_add_163 rfl rfl ?_
                  refine V_getr dX8_add_164 fl_RX8_13 (hS.n 51 rfl) (hS.k 51 8 rfl) rfl (hS.r 51 3 53 rfl) ?_
                  refine V_iload_n dX8_add_167 rfl rfl ?_
                  refine V_dup2 dX8_add_168 rfl rfl ?_
                  obtain ⟨hb, h⟩ := h
                  refine V_iald dX8_add_169 (hS.n 53 rfl) (hS.k 53 9 rfl) (by rw [(hS.z 53 4 rfl)]; exact hb) ?_
                  refine V_iconst (v := 1) dX8_add_170 (by decide) ?_
                  refine V_iadd dX8_add_171 ?_
                  obtain ⟨hb, h⟩ := h
                  refine V_iast dX8_add_172 (hS.n 53 rfl) (hS.k 53 9 rfl) (by rw [(hS.z 53 4 rfl)]; exact hb) ?_
                  refine V_memI (fun I94 e_I94 => ?_)
                  replace h := h I94 e_I94
                  refine V_aload_n dX8_add_173 rfl rfl ?_
                  refine V_getr dX8_add_174 fl_RX8_13 (hS.n 51 rfl) (hS.k 51 8 rfl) rfl (hS.r 51 3 53 rfl) ?_
                  refine V_iload_n dX8_add_177 rfl rfl ?_
                  obtain ⟨hb, h⟩ := h
                  refine V_iald dX8_add_178 (hS.n 53 rfl) (hS.k 53 9 rfl) (by rw [(hS.z 53 4 rfl)]; exact hb) ?_
                  exact V_iret dX8_add_179 rfl (by decide) (by decide) ⟨_, rfl, rfl, rfl, h⟩
                · replace h := h.2 hc
                  refine V_iconst (v := 0) dX8_add_117 (by decide) ?_
                  exact V_iret dX8_add_118 rfl (by decide) (by decide) ⟨_, rfl, rfl, rfl, h⟩
            · replace h := h.2 hc
              refine V_goto 69 dX8_add_61 rfl ?_
              refine V_iconst (v := 1) dX8_add_69 (by decide) ?_
              refine V_goto 74 dX8_add_70 rfl ?_
              refine V_istore (lo2 := [(6, .int 1), (5, .int r1), (0, .ref 51), (1, .int a1), (2, .int a2), (3, .int a3), (4, .int a4)]) dX8_add_74 (by decide) rfl ?_
              refine V_aload_n dX8_add_76 rfl rfl ?_
              refine V_iload dX8_add_77 rfl ?_
              refine V_if_ne 86 dX8_add_79 rfl (fun hc => ?_) (fun hc => ?_)
              · replace h := h.1 hc
                refine V_iload dX8_add_86 rfl ?_
                refine V_if_ne 95 dX8_add_88 rfl (fun hc => ?_) (fun hc => ?_)
                · refine V_aload_n dX8_add_95 rfl rfl ?_
                  refine V_getr dX8_add_96 fl_RX8_13 (hS.n 51 rfl) (hS.k 51 8 rfl) rfl (hS.r 51 3 53 rfl) ?_
                  refine V_iload_n dX8_add_99 rfl rfl ?_
                  obtain ⟨hb, h⟩ := h
                  refine V_iald dX8_add_100 (hS.n 53 rfl) (hS.k 53 9 rfl) (by rw [(hS.z 53 4 rfl)]; exact hb) ?_
                  refine V_bipush (v := 10) dX8_add_101 (by decide) ?_
                  refine V_icmp_ne 110 dX8_add_103 rfl (fun hc => ?_) (fun hc => ?_)
                  · replace h := h.1 hc
                    refine V_iconst (v := 0) dX8_add_110 (by decide) ?_
                    refine V_callVi (st := []) [.int 0] dX8_add_111 ok_mX8_goesWell rfl ml_RX8_112 in_mX8_goesWell se_mX8_goesWell (hS.n 51 rfl) (hS.k 51 8 rfl) (by decide) rfl (Nat.le_of_ble_eq_true rfl) (by decide) (by decide) (by decide) (s_mX8_goesWell hS h) (fun r96 I95 J9 h => ?_)
                    obtain ⟨rfl, h⟩ := h
                    refine V_if_ne 119 dX8_add_114 rfl (fun hc => ?_) (fun hc => ?_)
                    · replace h := h.1 hc
                      refine V_bipush (v := 10) dX8_add_119 (by decide) ?_
                      refine V_iload_n dX8_add_121 rfl rfl ?_
                      refine V_imul dX8_add_122 ?_
                      refine V_aload_n dX8_add_123 rfl rfl ?_
                      refine V_getr dX8_add_124 fl_RX8_13 (hS.n 51 rfl) (hS.k 51 8 rfl) rfl (hS.r 51 3 53 rfl) ?_
                      refine V_iload_n dX8_add_127 rfl rfl ?_
                      obtain ⟨hb, h⟩ := h
                      refine V_iald dX8_add_128 (hS.n 53 rfl) (hS.k 53 9 rfl) (by rw [(hS.z 53 4 rfl)]; exact hb) ?_
                      refine V_iadd dX8_add_129 ?_
                      refine V_iconst (v := 3) dX8_add_130 (by decide) ?_
                      refine V_imul dX8_add_131 ?_
                      refine V_topi (fun v97 e_v97 => ?_)
                      replace h := h v97 e_v97
                      refine V_istore (lo2 := [(7, .int v97), (6, .int 1), (5, .int r1), (0, .ref 51), (1, .int a1), (2, .int a2), (3, .int a3), (4, .int a4)]) dX8_add_132 (by decide) rfl ?_
                      refine V_aload_n dX8_add_134 rfl rfl ?_
                      refine V_getr dX8_add_135 fl_RX8_16 (hS.n 51 rfl) (hS.k 51 8 rfl) rfl (hS.r 51 4 54 rfl) ?_
                      refine V_iload dX8_add_138 rfl ?_
                      refine V_iload_n dX8_add_140 rfl rfl ?_
                      obtain ⟨hb, h⟩ := h
                      refine V_iast dX8_add_141 (hS.n 54 rfl) (hS.k 54 9 rfl) (by rw [(hS.z 54 120 rfl)]; exact hb) ?_
                      refine V_memI (fun I98 e_I98 => ?_)
                      replace h := h I98 e_I98
                      refine V_aload_n dX8_add_142 rfl rfl ?_
                      refine V_getr dX8_add_143 fl_RX8_16 (hS.n 51 rfl) (hS.k 51 8 rfl) rfl (hS.r 51 4 54 rfl) ?_
                      refine V_iload dX8_add_146 rfl ?_
                      refine V_iconst (v := 1) dX8_add_148 (by decide) ?_
                      refine V_iadd dX8_add_149 ?_
                      refine V_iload_n dX8_add_150 rfl rfl ?_
                      obtain ⟨hb, h⟩ := h
                      refine V_iast dX8_add_151 (hS.n 54 rfl) (hS.k 54 9 rfl) (by rw [(hS.z 54 120 rfl)]; exact hb) ?_
                      refine V_memI (fun I99 e_I99 => ?_)
                      replace h := h I99 e_I99
                      refine V_aload_n dX8_add_152 rfl rfl ?_
                      refine V_getr dX8_add_153 fl_RX8_16 (hS.n 51 rfl) (hS.k 51 8 rfl) rfl (hS.r 51 4 54 rfl) ?_
                      refine V_iload dX8_add_156 rfl ?_
                      refine V_iconst (v := 2) dX8_add_158 (by decide) ?_
                      refine V_iadd dX8_add_159 ?_
                      refine V_iload dX8_add_160 rfl ?_
                      obtain ⟨hb, h⟩ := h
                      refine V_iast dX8_add_162 (hS.n 54 rfl) (hS.k 54 9 rfl) (by rw [(hS.z 54 120 rfl)]; exact hb) ?_
                      refine V_memI (fun I100 e_I100 => ?_)
                      replace h := h I100 e_I100
                      refine V_aload_n dX8_add_163 rfl rfl ?_
                      refine V_getr dX8_add_164 fl_RX8_13 (hS.n 51 rfl) (hS.k 51 8 rfl) rfl (hS.r 51 3 53 rfl) ?_
                      refine V_iload_n dX8_add_167 rfl rfl ?_
                      refine V_dup2 dX8_add_168 rfl rfl ?_
                      obtain ⟨hb, h⟩ := h
                      refine V_iald dX8_add_169 (hS.n 53 rfl) (hS.k 53 9 rfl) (by rw [(hS.z 53 4 rfl)]; exact hb) ?_
                      refine V_iconst (v := 1) dX8_add_170 (by decide) ?_
                      refine V_iadd dX8_add_171 ?_
                      obtain ⟨hb, h⟩ := h
                      refine V_iast dX8_add_172 (hS.n 53 rfl) (hS.k 53 9 rfl) (by rw [(hS.z 53 4 rfl)]; exact hb) ?_
                      refine V_memI (fun I101 e_I101 => ?_)
                      replace h := h I101 e_I101
                      refine V_aload_n dX8_add_173 rfl rfl ?_
                      refine V_getr dX8_add_174 fl_RX8_13 (hS.n 51 rfl) (hS.k 51 8 rfl) rfl (hS.r 51 3 53 rfl) ?_
                      refine V_iload_n dX8_add_177 rfl rfl ?_
                      obtain ⟨hb, h⟩ := h
                      refine V_iald dX8_add_178 (hS.n 53 rfl) (hS.k 53 9 rfl) (by rw [(hS.z 53 4 rfl)]; exact hb) ?_
                      exact V_iret dX8_add_179 rfl (by decide) (by decide) ⟨_, rfl, rfl, rfl, h⟩
                    · replace h := h.2 hc
                      refine V_iconst (v := 0) dX8_add_117 (by decide) ?_
                      exact V_iret dX8_add_118 rfl (by decide) (by decide) ⟨_, rfl, rfl, rfl, h⟩
                  · replace h := h.2 hc
                    refine V_iconst (v := 3) dX8_add_106 (by decide) ?_
                    refine V_goto 111 dX8_add_107 rfl ?_
                    refine V_callVi (st := []) [.int 3] dX8_add_111 ok_mX8_goesWell rfl ml_RX8_112 in_mX8_goesWell se_mX8_goesWell (hS.n 51 rfl) (hS.k 51 8 rfl) (by decide) rfl (Nat.le_of_ble_eq_true rfl) (by decide) (by decide) (by decide) (s_mX8_goesWell hS h) (fun r103 I102 J9 h => ?_)
                    obtain ⟨rfl, h⟩ := h
                    refine V_if_ne 119 dX8_add_114 rfl (fun hc => ?_) (fun hc => ?_)
                    · replace h := h.1 hc
                      refine V_bipush (v := 10) dX8_add_119 (by decide) ?_
                      refine V_iload_n dX8_add_121 rfl rfl ?_
                      refine V_imul dX8_add_122 ?_
                      refine V_aload_n dX8_add_123 rfl rfl ?_
                      refine V_getr dX8_add_124 fl_RX8_13 (hS.n 51 rfl) (hS.k 51 8 rfl) rfl (hS.r 51 3 53 rfl) ?_
                      refine V_iload_n dX8_add_127 rfl rfl ?_
                      obtain ⟨hb, h⟩ := h
                      refine V_iald dX8_add_128 (hS.n 53 rfl) (hS.k 53 9 rfl) (by rw [(hS.z 53 4 rfl)]; exact hb) ?_
                      refine V_iadd dX8_add_129 ?_
                      refine V_iconst (v := 3) dX8_add_130 (by decide) ?_
                      refine V_imul dX8_add_131 ?_
                      refine V_topi (fun v104 e_v104 => ?_)
                      replace h := h v104 e_v104
                      refine V_istore (lo2 := [(7, .int v104), (6, .int 1), (5, .int r1), (0, .ref 51), (1, .int a1), (2, .int a2), (3, .int a3), (4, .int a4)]) dX8_add_132 (by decide) rfl ?_
                      refine V_aload_n dX8_add_134 rfl rfl ?_
                      refine V_getr dX8_add_135 fl_RX8_16 (hS.n 51 rfl) (hS.k 51 8 rfl) rfl (hS.r 51 4 54 rfl) ?_
                      refine V_iload dX8_add_138 rfl ?_
                      refine V_iload_n dX8_add_140 rfl rfl ?_
                      obtain ⟨hb, h⟩ := h
                      refine V_iast dX8_add_141 (hS.n 54 rfl) (hS.k 54 9 rfl) (by rw [(hS.z 54 120 rfl)]; exact hb) ?_
                      refine V_memI (fun I105 e_I105 => ?_)
                      replace h := h I105 e_I105
                      refine V_aload_n dX8_add_142 rfl rfl ?_
                      refine V_getr dX8_add_143 fl_RX8_16 (hS.n 51 rfl) (hS.k 51 8 rfl) rfl (hS.r 51 4 54 rfl) ?_
                      refine V_iload dX8_add_146 rfl ?_
                      refine V_iconst (v := 1) dX8_add_148 (by decide) ?_
                      refine V_iadd dX8_add_149 ?_
                      refine V_iload_n dX8_add_150 rfl rfl ?_
                      obtain ⟨hb, h⟩ := h
                      refine V_iast dX8_add_151 (hS.n 54 rfl) (hS.k 54 9 rfl) (by rw [(hS.z 54 120 rfl)]; exact hb) ?_
                      refine V_memI (fun I106 e_I106 => ?_)
                      replace h := h I106 e_I106
                      refine V_aload_n dX8_add_152 rfl rfl ?_
                      refine V_getr dX8_add_153 fl_RX8_16 (hS.n 51 rfl) (hS.k 51 8 rfl) rfl (hS.r 51 4 54 rfl) ?_
                      refine V_iload dX8_add_156 rfl ?_
                      refine V_iconst (v := 2) dX8_add_158 (by decide) ?_
                      refine V_iadd dX8_add_159 ?_
                      refine V_iload dX8_add_160 rfl ?_
                      obtain ⟨hb, h⟩ := h
                      refine V_iast dX8_add_162 (hS.n 54 rfl) (hS.k 54 9 rfl) (by rw [(hS.z 54 120 rfl)]; exact hb) ?_
                      refine V_memI (fun I107 e_I107 => ?_)
                      replace h := h I107 e_I107
                      refine V_aload_n dX8_add_163 rfl rfl ?_
                      refine V_getr dX8_add_164 fl_RX8_13 (hS.n 51 rfl) (hS.k 51 8 rfl) rfl (hS.r 51 3 53 rfl) ?_
                      refine V_iload_n dX8_add_167 rfl rfl ?_
                      refine V_dup2 dX8_add_168 rfl rfl ?_
                      obtain ⟨hb, h⟩ := h
                      refine V_iald dX8_add_169 (hS.n 53 rfl) (hS.k 53 9 rfl) (by rw [(hS.z 53 4 rfl)]; exact hb) ?_
                      refine V_iconst (v := 1) dX8_add_170 (by decide) ?_
                      refine V_iadd dX8_add_171 ?_
                      obtain ⟨hb, h⟩ := h
                      refine V_iast dX8_add_172 (hS.n 53 rfl) (hS.k 53 9 rfl) (by rw [(hS.z 53 4 rfl)]; exact hb) ?_
                      refine V_memI (fun I108 e_I108 => ?_)
                      replace h := h I108 e_I108
                      refine V_aload_n dX8_add_173 rfl rfl ?_
                      refine V_getr dX8_add_174 fl_RX8_13 (hS.n 51 rfl) (hS.k 51 8 rfl) rfl (hS.r 51 3 53 rfl) ?_
                      refine V_iload_n dX8_add_177 rfl rfl ?_
                      obtain ⟨hb, h⟩ := h
                      refine V_iald dX8_add_178 (hS.n 53 rfl) (hS.k 53 9 rfl) (by rw [(hS.z 53 4 rfl)]; exact hb) ?_
                      exact V_iret dX8_add_179 rfl (by decide) (by decide) ⟨_, rfl, rfl, rfl, h⟩
                    · replace h := h.2 hc
                      refine V_iconst (v := 0) dX8_add_117 (by decide) ?_
                      exact V_iret dX8_add_118 rfl (by decide) (by decide) ⟨_, rfl, rfl, rfl, h⟩
                · first | exact absurd hc (by decide) | exact absurd (by decide) hc
              · replace h := h.2 hc
                refine V_iconst (v := 1) dX8_add_82 (by decide) ?_
                refine V_goto 111 dX8_add_83 rfl ?_
                refine V_callVi (st := []) [.int 1] dX8_add_111 ok_mX8_goesWell rfl ml_RX8_112 in_mX8_goesWell se_mX8_goesWell (hS.n 51 rfl) (hS.k 51 8 rfl) (by decide) rfl (Nat.le_of_ble_eq_true rfl) (by decide) (by decide) (by decide) (s_mX8_goesWell hS h) (fun r110 I109 J9 h => ?_)
                obtain ⟨rfl, h⟩ := h
                refine V_if_ne 119 dX8_add_114 rfl (fun hc => ?_) (fun hc => ?_)
                · replace h := h.1 hc
                  refine V_bipush (v := 10) dX8_add_119 (by decide) ?_
                  refine V_iload_n dX8_add_121 rfl rfl ?_
                  refine V_imul dX8_add_122 ?_
                  refine V_aload_n dX8_add_123 rfl rfl ?_
                  refine V_getr dX8_add_124 fl_RX8_13 (hS.n 51 rfl) (hS.k 51 8 rfl) rfl (hS.r 51 3 53 rfl) ?_
                  refine V_iload_n dX8_add_127 rfl rfl ?_
                  obtain ⟨hb, h⟩ := h
                  refine V_iald dX8_add_128 (hS.n 53 rfl) (hS.k 53 9 rfl) (by rw [(hS.z 53 4 rfl)]; exact hb) ?_
                  refine V_iadd dX8_add_129 ?_
                  refine V_iconst (v := 3) dX8_add_130 (by decide) ?_
                  refine V_imul dX8_add_131 ?_
                  refine V_topi (fun v111 e_v111 => ?_)
                  replace h := h v111 e_v111
                  refine V_istore (lo2 := [(7, .int v111), (6, .int 1), (5, .int r1), (0, .ref 51), (1, .int a1), (2, .int a2), (3, .int a3), (4, .int a4)]) dX8_add_132 (by decide) rfl ?_
                  refine V_aload_n dX8_add_134 rfl rfl ?_
                  refine V_getr dX8_add_135 fl_RX8_16 (hS.n 51 rfl) (hS.k 51 8 rfl) rfl (hS.r 51 4 54 rfl) ?_
                  refine V_iload dX8_add_138 rfl ?_
                  refine V_iload_n dX8_add_140 rfl rfl ?_
                  obtain ⟨hb, h⟩ := h
                  refine V_iast dX8_add_141 (hS.n 54 rfl) (hS.k 54 9 rfl) (by rw [(hS.z 54 120 rfl)]; exact hb) ?_
                  refine V_memI (fun I112 e_I112 => ?_)
                  replace h := h I112 e_I112
                  refine V_aload_n dX8_add_142 rfl rfl ?_
                  refine V_getr dX8_add_143 fl_RX8_16 (hS.n 51 rfl) (hS.k 51 8 rfl) rfl (hS.r 51 4 54 rfl) ?_
                  refine V_iload dX8_add_146 rfl ?_
                  refine V_iconst (v := 1) dX8_add_148 (by decide) ?_
                  refine V_iadd dX8_add_149 ?_
                  refine V_iload_n dX8_add_150 rfl rfl ?_
                  obtain ⟨hb, h⟩ := h
                  refine V_iast dX8_add_151 (hS.n 54 rfl) (hS.k 54 9 rfl) (by rw [(hS.z 54 120 rfl)]; exact hb) ?_
                  refine V_memI (fun I113 e_I113 => ?_)
                  replace h := h I113 e_I113
                  refine V_aload_n dX8_add_152 rfl rfl ?_
                  refine V_getr dX8_add_153 fl_RX8_16 (hS.n 51 rfl) (hS.k 51 8 rfl) rfl (hS.r 51 4 54 rfl) ?_
                  refine V_iload dX8_add_156 rfl ?_
                  refine V_iconst (v := 2) dX8_add_158 (by decide) ?_
                  refine V_iadd dX8_add_159 ?_
                  refine V_iload dX8_add_160 rfl ?_
                  obtain ⟨hb, h⟩ := h
                  refine V_iast dX8_add_162 (hS.n 54 rfl) (hS.k 54 9 rfl) (by rw [(hS.z 54 120 rfl)]; exact hb) ?_
                  refine V_memI (fun I114 e_I114 => ?_)
                  replace h := h I114 e_I114
                  refine V_aload_n dX8_add_163 rfl rfl ?_
                  refine V_getr dX8_add_164 fl_RX8_13 (hS.n 51 rfl) (hS.k 51 8 rfl) rfl (hS.r 51 3 53 rfl) ?_
                  refine V_iload_n dX8_add_167 rfl rfl ?_
                  refine V_dup2 dX8_add_168 rfl rfl ?_
                  obtain ⟨hb, h⟩ := h
                  refine V_iald dX8_add_169 (hS.n 53 rfl) (hS.k 53 9 rfl) (by rw [(hS.z 53 4 rfl)]; exact hb) ?_
                  refine V_iconst (v := 1) dX8_add_170 (by decide) ?_
                  refine V_iadd dX8_add_171 ?_
                  obtain ⟨hb, h⟩ := h
                  refine V_iast dX8_add_172 (hS.n 53 rfl) (hS.k 53 9 rfl) (by rw [(hS.z 53 4 rfl)]; exact hb) ?_
                  refine V_memI (fun I115 e_I115 => ?_)
                  replace h := h I115 e_I115
                  refine V_aload_n dX8_add_173 rfl rfl ?_
                  refine V_getr dX8_add_174 fl_RX8_13 (hS.n 51 rfl) (hS.k 51 8 rfl) rfl (hS.r 51 3 53 rfl) ?_
                  refine V_iload_n dX8_add_177 rfl rfl ?_
                  obtain ⟨hb, h⟩ := h
                  refine V_iald dX8_add_178 (hS.n 53 rfl) (hS.k 53 9 rfl) (by rw [(hS.z 53 4 rfl)]; exact hb) ?_
                  exact V_iret dX8_add_179 rfl (by decide) (by decide) ⟨_, rfl, rfl, rfl, h⟩
                · replace h := h.2 hc
                  refine V_iconst (v := 0) dX8_add_117 (by decide) ?_
                  exact V_iret dX8_add_118 rfl (by decide) (by decide) ⟨_, rfl, rfl, rfl, h⟩
      · replace h := h.2 hc
        refine V_iload_n dX8_add_29 rfl rfl ?_
        refine V_callSi (st := []) [.int a3] dX8_add_30 ok_mX8_isValue rfl ml_RX8_115 st_mX8_isValue (Nat.le_of_ble_eq_true rfl) (by decide) (by decide) (by decide) (s_mX8_isValue hS h) (fun r116 I9 J9 h => ?_)
        obtain ⟨rfl, rfl, h⟩ := h
        refine V_if_eq 73 dX8_add_33 rfl (fun hc => ?_) (fun hc => ?_)
        · replace h := h.1 hc
          refine V_iconst (v := 0) dX8_add_73 (by decide) ?_
          refine V_istore (lo2 := [(6, .int 0), (5, .int r1), (0, .ref 51), (1, .int a1), (2, .int a2), (3, .int a3), (4, .int a4)]) dX8_add_74 (by decide) rfl ?_
          refine V_aload_n dX8_add_76 rfl rfl ?_
          refine V_iload dX8_add_77 rfl ?_
          refine V_if_ne 86 dX8_add_79 rfl (fun hc => ?_) (fun hc => ?_)
          · replace h := h.1 hc
            refine V_iload dX8_add_86 rfl ?_
            refine V_if_ne 95 dX8_add_88 rfl (fun hc => ?_) (fun hc => ?_)
            · first | exact absurd hc (by decide) | exact absurd (by decide) hc
            · refine V_iconst (v := 2) dX8_add_91 (by decide) ?_
              refine V_goto 111 dX8_add_92 rfl ?_
              refine V_callVi (st := []) [.int 2] dX8_add_111 ok_mX8_goesWell rfl ml_RX8_112 in_mX8_goesWell se_mX8_goesWell (hS.n 51 rfl) (hS.k 51 8 rfl) (by decide) rfl (Nat.le_of_ble_eq_true rfl) (by decide) (by decide) (by decide) (s_mX8_goesWell hS h) (fun r118 I117 J9 h => ?_)
              obtain ⟨rfl, h⟩ := h
              refine V_if_ne 119 dX8_add_114 rfl (fun hc => ?_) (fun hc => ?_)
              · replace h := h.1 hc
                refine V_bipush (v := 10) dX8_add_119 (by decide) ?_
                refine V_iload_n dX8_add_121 rfl rfl ?_
                refine V_imul dX8_add_122 ?_
                refine V_aload_n dX8_add_123 rfl rfl ?_
                refine V_getr dX8_add_124 fl_RX8_13 (hS.n 51 rfl) (hS.k 51 8 rfl) rfl (hS.r 51 3 53 rfl) ?_
                refine V_iload_n dX8_add_127 rfl rfl ?_
                obtain ⟨hb, h⟩ := h
                refine V_iald dX8_add_128 (hS.n 53 rfl) (hS.k 53 9 rfl) (by rw [(hS.z 53 4 rfl)]; exact hb) ?_
                refine V_iadd dX8_add_129 ?_
                refine V_iconst (v := 3) dX8_add_130 (by decide) ?_
                refine V_imul dX8_add_131 ?_
                refine V_topi (fun v119 e_v119 => ?_)
                replace h := h v119 e_v119
                refine V_istore (lo2 := [(7, .int v119), (6, .int 0), (5, .int r1), (0, .ref 51), (1, .int a1), (2, .int a2), (3, .int a3), (4, .int a4)]) dX8_add_132 (by decide) rfl ?_
                refine V_aload_n dX8_add_134 rfl rfl ?_
                refine V_getr dX8_add_135 fl_RX8_16 (hS.n 51 rfl) (hS.k 51 8 rfl) rfl (hS.r 51 4 54 rfl) ?_
                refine V_iload dX8_add_138 rfl ?_
                refine V_iload_n dX8_add_140 rfl rfl ?_
                obtain ⟨hb, h⟩ := h
                refine V_iast dX8_add_141 (hS.n 54 rfl) (hS.k 54 9 rfl) (by rw [(hS.z 54 120 rfl)]; exact hb) ?_
                refine V_memI (fun I120 e_I120 => ?_)
                replace h := h I120 e_I120
                refine V_aload_n dX8_add_142 rfl rfl ?_
                refine V_getr dX8_add_143 fl_RX8_16 (hS.n 51 rfl) (hS.k 51 8 rfl) rfl (hS.r 51 4 54 rfl) ?_
                refine V_iload dX8_add_146 rfl ?_
                refine V_iconst (v := 1) dX8_add_148 (by decide) ?_
                refine V_iadd dX8_add_149 ?_
                refine V_iload_n dX8_add_150 rfl rfl ?_
                obtain ⟨hb, h⟩ := h
                refine V_iast dX8_add_151 (hS.n 54 rfl) (hS.k 54 9 rfl) (by rw [(hS.z 54 120 rfl)]; exact hb) ?_
                refine V_memI (fun I121 e_I121 => ?_)
                replace h := h I121 e_I121
                refine V_aload_n dX8_add_152 rfl rfl ?_
                refine V_getr dX8_add_153 fl_RX8_16 (hS.n 51 rfl) (hS.k 51 8 rfl) rfl (hS.r 51 4 54 rfl) ?_
                refine V_iload dX8_add_156 rfl ?_
                refine V_iconst (v := 2) dX8_add_158 (by decide) ?_
                refine V_iadd dX8_add_159 ?_
                refine V_iload dX8_add_160 rfl ?_
                obtain ⟨hb, h⟩ := h
                refine V_iast dX8_add_162 (hS.n 54 rfl) (hS.k 54 9 rfl) (by rw [(hS.z 54 120 rfl)]; exact hb) ?_
                refine V_memI (fun I122 e_I122 => ?_)
                replace h := h I122 e_I122
                refine V_aload_n dX8_add_163 rfl rfl ?_
                refine V_getr dX8_add_164 fl_RX8_13 (hS.n 51 rfl) (hS.k 51 8 rfl) rfl (hS.r 51 3 53 rfl) ?_
                refine V_iload_n dX8_add_167 rfl rfl ?_
                refine V_dup2 dX8_add_168 rfl rfl ?_
                obtain ⟨hb, h⟩ := h
                refine V_iald dX8_add_169 (hS.n 53 rfl) (hS.k 53 9 rfl) (by rw [(hS.z 53 4 rfl)]; exact hb) ?_
                refine V_iconst (v := 1) dX8_add_170 (by decide) ?_
                refine V_iadd dX8_add_171 ?_
                obtain ⟨hb, h⟩ := h
                refine V_iast dX8_add_172 (hS.n 53 rfl) (hS.k 53 9 rfl) (by rw [(hS.z 53 4 rfl)]; exact hb) ?_
                refine V_memI (fun I123 e_I123 => ?_)
                replace h := h I123 e_I123
                refine V_aload_n dX8_add_173 rfl rfl ?_
                refine V_getr dX8_add_174 fl_RX8_13 (hS.n 51 rfl) (hS.k 51 8 rfl) rfl (hS.r 51 3 53 rfl) ?_
                refine V_iload_n dX8_add_177 rfl rfl ?_
                obtain ⟨hb, h⟩ := h
                refine V_iald dX8_add_178 (hS.n 53 rfl) (hS.k 53 9 rfl) (by rw [(hS.z 53 4 rfl)]; exact hb) ?_
                exact V_iret dX8_add_179 rfl (by decide) (by decide) ⟨_, rfl, rfl, rfl, h⟩
              · replace h := h.2 hc
                refine V_iconst (v := 0) dX8_add_117 (by decide) ?_
                exact V_iret dX8_add_118 rfl (by decide) (by decide) ⟨_, rfl, rfl, rfl, h⟩
          · replace h := h.2 hc
            refine V_iconst (v := 1) dX8_add_82 (by decide) ?_
            refine V_goto 111 dX8_add_83 rfl ?_
            refine V_callVi (st := []) [.int 1] dX8_add_111 ok_mX8_goesWell rfl ml_RX8_112 in_mX8_goesWell se_mX8_goesWell (hS.n 51 rfl) (hS.k 51 8 rfl) (by decide) rfl (Nat.le_of_ble_eq_true rfl) (by decide) (by decide) (by decide) (s_mX8_goesWell hS h) (fun r125 I124 J9 h => ?_)
            obtain ⟨rfl, h⟩ := h
            refine V_if_ne 119 dX8_add_114 rfl (fun hc => ?_) (fun hc => ?_)
            · replace h := h.1 hc
              refine V_bipush (v := 10) dX8_add_119 (by decide) ?_
              refine V_iload_n dX8_add_121 rfl rfl ?_
              refine V_imul dX8_add_122 ?_
              refine V_aload_n dX8_add_123 rfl rfl ?_
              refine V_getr dX8_add_124 fl_RX8_13 (hS.n 51 rfl) (hS.k 51 8 rfl) rfl (hS.r 51 3 53 rfl) ?_
              refine V_iload_n dX8_add_127 rfl rfl ?_
              obtain ⟨hb, h⟩ := h
              refine V_iald dX8_add_128 (hS.n 53 rfl) (hS.k 53 9 rfl) (by rw [(hS.z 53 4 rfl)]; exact hb) ?_
              refine V_iadd dX8_add_129 ?_
              refine V_iconst (v := 3) dX8_add_130 (by decide) ?_
              refine V_imul dX8_add_131 ?_
              refine V_topi (fun v126 e_v126 => ?_)
              replace h := h v126 e_v126
              refine V_istore (lo2 := [(7, .int v126), (6, .int 0), (5, .int r1), (0, .ref 51), (1, .int a1), (2, .int a2), (3, .int a3), (4, .int a4)]) dX8_add_132 (by decide) rfl ?_
              refine V_aload_n dX8_add_134 rfl rfl ?_
              refine V_getr dX8_add_135 fl_RX8_16 (hS.n 51 rfl) (hS.k 51 8 rfl) rfl (hS.r 51 4 54 rfl) ?_
              refine V_iload dX8_add_138 rfl ?_
              refine V_iload_n dX8_add_140 rfl rfl ?_
              obtain ⟨hb, h⟩ := h
              refine V_iast dX8_add_141 (hS.n 54 rfl) (hS.k 54 9 rfl) (by rw [(hS.z 54 120 rfl)]; exact hb) ?_
              refine V_memI (fun I127 e_I127 => ?_)
              replace h := h I127 e_I127
              refine V_aload_n dX8_add_142 rfl rfl ?_
              refine V_getr dX8_add_143 fl_RX8_16 (hS.n 51 rfl) (hS.k 51 8 rfl) rfl (hS.r 51 4 54 rfl) ?_
              refine V_iload dX8_add_146 rfl ?_
              refine V_iconst (v := 1) dX8_add_148 (by decide) ?_
              refine V_iadd dX8_add_149 ?_
              refine V_iload_n dX8_add_150 rfl rfl ?_
              obtain ⟨hb, h⟩ := h
              refine V_iast dX8_add_151 (hS.n 54 rfl) (hS.k 54 9 rfl) (by rw [(hS.z 54 120 rfl)]; exact hb) ?_
              refine V_memI (fun I128 e_I128 => ?_)
              replace h := h I128 e_I128
              refine V_aload_n dX8_add_152 rfl rfl ?_
              refine V_getr dX8_add_153 fl_RX8_16 (hS.n 51 rfl) (hS.k 51 8 rfl) rfl (hS.r 51 4 54 rfl) ?_
              refine V_iload dX8_add_156 rfl ?_
              refine V_iconst (v := 2) dX8_add_158 (by decide) ?_
              refine V_iadd dX8_add_159 ?_
              refine V_iload dX8_add_160 rfl ?_
              obtain ⟨hb, h⟩ := h
              refine V_iast dX8_add_162 (hS.n 54 rfl) (hS.k 54 9 rfl) (by rw [(hS.z 54 120 rfl)]; exact hb) ?_
              refine V_memI (fun I129 e_I129 => ?_)
              replace h := h I129 e_I129
              refine V_aload_n dX8_add_163 rfl rfl ?_
              refine V_getr dX8_add_164 fl_RX8_13 (hS.n 51 rfl) (hS.k 51 8 rfl) rfl (hS.r 51 3 53 rfl) ?_
              refine V_iload_n dX8_add_167 rfl rfl ?_
              refine V_dup2 dX8_add_168 rfl rfl ?_
              obtain ⟨hb, h⟩ := h
              refine V_iald dX8_add_169 (hS.n 53 rfl) (hS.k 53 9 rfl) (by rw [(hS.z 53 4 rfl)]; exact hb) ?_
              refine V_iconst (v := 1) dX8_add_170 (by decide) ?_
              refine V_iadd dX8_add_171 ?_
              obtain ⟨hb, h⟩ := h
              refine V_iast dX8_add_172 (hS.n 53 rfl) (hS.k 53 9 rfl) (by rw [(hS.z 53 4 rfl)]; exact hb) ?_
              refine V_memI (fun I130 e_I130 => ?_)
              replace h := h I130 e_I130
              refine V_aload_n dX8_add_173 rfl rfl ?_
              refine V_getr dX8_add_174 fl_RX8_13 (hS.n 51 rfl) (hS.k 51 8 rfl) rfl (hS.r 51 3 53 rfl) ?_
              refine V_iload_n dX8_add_177 rfl rfl ?_
              obtain ⟨hb, h⟩ := h
              refine V_iald dX8_add_178 (hS.n 53 rfl) (hS.k 53 9 rfl) (by rw [(hS.z 53 4 rfl)]; exact hb) ?_
              exact V_iret dX8_add_179 rfl (by decide) (by decide) ⟨_, rfl, rfl, rfl, h⟩
            · replace h := h.2 hc
              refine V_iconst (v := 0) dX8_add_117 (by decide) ?_
              exact V_iret dX8_add_118 rfl (by decide) (by decide) ⟨_, rfl, rfl, rfl, h⟩
        · replace h := h.2 hc
          refine V_goto 43 dX8_add_36 rfl ?_
          refine V_aload_n dX8_add_43 rfl rfl ?_
          refine V_getr dX8_add_44 fl_RX8_9 (hS.n 51 rfl) (hS.k 51 8 rfl) rfl (hS.r 51 2 52 rfl) ?_
          refine V_iload_n dX8_add_47 rfl rfl ?_
          obtain ⟨hb, h⟩ := h
          refine V_iald dX8_add_48 (hS.n 52 rfl) (hS.k 52 9 rfl) (by rw [(hS.z 52 4 rfl)]; exact hb) ?_
          refine V_iconst (v := 2) dX8_add_49 (by decide) ?_
          refine V_icmp_le 64 dX8_add_50 rfl (fun hc => ?_) (fun hc => ?_)
          · replace h := h.1 hc
            refine V_iload dX8_add_64 rfl ?_
            refine V_if_ne 73 dX8_add_66 rfl (fun hc => ?_) (fun hc => ?_)
            · replace h := h.1 hc
              refine V_iconst (v := 0) dX8_add_73 (by decide) ?_
              refine V_istore (lo2 := [(6, .int 0), (5, .int r1), (0, .ref 51), (1, .int a1), (2, .int a2), (3, .int a3), (4, .int a4)]) dX8_add_74 (by decide) rfl ?_
              refine V_aload_n dX8_add_76 rfl rfl ?_
              refine V_iload dX8_add_77 rfl ?_
              refine V_if_ne 86 dX8_add_79 rfl (fun hc => ?_) (fun hc => ?_)
              · replace h := h.1 hc
                refine V_iload dX8_add_86 rfl ?_
                refine V_if_ne 95 dX8_add_88 rfl (fun hc => ?_) (fun hc => ?_)
                · first | exact absurd hc (by decide) | exact absurd (by decide) hc
                · refine V_iconst (v := 2) dX8_add_91 (by decide) ?_
                  refine V_goto 111 dX8_add_92 rfl ?_
                  refine V_callVi (st := []) [.int 2] dX8_add_111 ok_mX8_goesWell rfl ml_RX8_112 in_mX8_goesWell se_mX8_goesWell (hS.n 51 rfl) (hS.k 51 8 rfl) (by decide) rfl (Nat.le_of_ble_eq_true rfl) (by decide) (by decide) (by decide) (s_mX8_goesWell hS h) (fun r132 I131 J9 h => ?_)
                  obtain ⟨rfl, h⟩ := h
                  refine V_if_ne 119 dX8_add_114 rfl (fun hc => ?_) (fun hc => ?_)
                  · replace h := h.1 hc
                    refine V_bipush (v := 10) dX8_add_119 (by decide) ?_
                    refine V_iload_n dX8_add_121 rfl rfl ?_
                    refine V_imul dX8_add_122 ?_
                    refine V_aload_n dX8_add_123 rfl rfl ?_
                    refine V_getr dX8_add_124 fl_RX8_13 (hS.n 51 rfl) (hS.k 51 8 rfl) rfl (hS.r 51 3 53 rfl) ?_
                    refine V_iload_n dX8_add_127 rfl rfl ?_
                    obtain ⟨hb, h⟩ := h
                    refine V_iald dX8_add_128 (hS.n 53 rfl) (hS.k 53 9 rfl) (by rw [(hS.z 53 4 rfl)]; exact hb) ?_
                    refine V_iadd dX8_add_129 ?_
                    refine V_iconst (v := 3) dX8_add_130 (by decide) ?_
                    refine V_imul dX8_add_131 ?_
                    refine V_topi (fun v133 e_v133 => ?_)
                    replace h := h v133 e_v133
                    refine V_istore (lo2 := [(7, .int v133), (6, .int 0), (5, .int r1), (0, .ref 51), (1, .int a1), (2, .int a2), (3, .int a3), (4, .int a4)]) dX8_add_132 (by decide) rfl ?_
                    refine V_aload_n dX8_add_134 rfl rfl ?_
                    refine V_getr dX8_add_135 fl_RX8_16 (hS.n 51 rfl) (hS.k 51 8 rfl) rfl (hS.r 51 4 54 rfl) ?_
                    refine V_iload dX8_add_138 rfl ?_
                    refine V_iload_n dX8_add_140 rfl rfl ?_
                    obtain ⟨hb, h⟩ := h
                    refine V_iast dX8_add_141 (hS.n 54 rfl) (hS.k 54 9 rfl) (by rw [(hS.z 54 120 rfl)]; exact hb) ?_
                    refine V_memI (fun I134 e_I134 => ?_)
                    replace h := h I134 e_I134
                    refine V_aload_n dX8_add_142 rfl rfl ?_
                    refine V_getr dX8_add_143 fl_RX8_16 (hS.n 51 rfl) (hS.k 51 8 rfl) rfl (hS.r 51 4 54 rfl) ?_
                    refine V_iload dX8_add_146 rfl ?_
                    refine V_iconst (v := 1) dX8_add_148 (by decide) ?_
                    refine V_iadd dX8_add_149 ?_
                    refine V_iload_n dX8_add_150 rfl rfl ?_
                    obtain ⟨hb, h⟩ := h
                    refine V_iast dX8_add_151 (hS.n 54 rfl) (hS.k 54 9 rfl) (by rw [(hS.z 54 120 rfl)]; exact hb) ?_
                    refine V_memI (fun I135 e_I135 => ?_)
                    replace h := h I135 e_I135
                    refine V_aload_n dX8_add_152 rfl rfl ?_
                    refine V_getr dX8_add_153 fl_RX8_16 (hS.n 51 rfl) (hS.k 51 8 rfl) rfl (hS.r 51 4 54 rfl) ?_
                    refine V_iload dX8_add_156 rfl ?_
                    refine V_iconst (v := 2) dX8_add_158 (by decide) ?_
                    refine V_iadd dX8_add_159 ?_
                    refine V_iload dX8_add_160 rfl ?_
                    obtain ⟨hb, h⟩ := h
                    refine V_iast dX8_add_162 (hS.n 54 rfl) (hS.k 54 9 rfl) (by rw [(hS.z 54 120 rfl)]; exact hb) ?_
                    refine V_memI (fun I136 e_I136 => ?_)
                    replace h := h I136 e_I136
                    refine V_aload_n dX8_add_163 rfl rfl ?_
                    refine V_getr dX8_add_164 fl_RX8_13 (hS.n 51 rfl) (hS.k 51 8 rfl) rfl (hS.r 51 3 53 rfl) ?_
                    refine V_iload_n dX8_add_167 rfl rfl ?_
                    refine V_dup2 dX8_add_168 rfl rfl ?_
                    obtain ⟨hb, h⟩ := h
                    refine V_iald dX8_add_169 (hS.n 53 rfl) (hS.k 53 9 rfl) (by rw [(hS.z 53 4 rfl)]; exact hb) ?_
                    refine V_iconst (v := 1) dX8_add_170 (by decide) ?_
                    refine V_iadd dX8_add_171 ?_
                    obtain ⟨hb, h⟩ := h
                    refine V_iast dX8_add_172 (hS.n 53 rfl) (hS.k 53 9 rfl) (by rw [(hS.z 53 4 rfl)]; exact hb) ?_
                    refine V_memI (fun I137 e_I137 => ?_)
                    replace h := h I137 e_I137
                    refine V_aload_n dX8_add_173 rfl rfl ?_
                    refine V_getr dX8_add_174 fl_RX8_13 (hS.n 51 rfl) (hS.k 51 8 rfl) rfl (hS.r 51 3 53 rfl) ?_
                    refine V_iload_n dX8_add_177 rfl rfl ?_
                    obtain ⟨hb, h⟩ := h
                    refine V_iald dX8_add_178 (hS.n 53 rfl) (hS.k 53 9 rfl) (by rw [(hS.z 53 4 rfl)]; exact hb) ?_
                    exact V_iret dX8_add_179 rfl (by decide) (by decide) ⟨_, rfl, rfl, rfl, h⟩
                  · replace h := h.2 hc
                    refine V_iconst (v := 0) dX8_add_117 (by decide) ?_
                    exact V_iret dX8_add_118 rfl (by decide) (by decide) ⟨_, rfl, rfl, rfl, h⟩
              · replace h := h.2 hc
                refine V_iconst (v := 1) dX8_add_82 (by decide) ?_
                refine V_goto 111 dX8_add_83 rfl ?_
                refine V_callVi (st := []) [.int 1] dX8_add_111 ok_mX8_goesWell rfl ml_RX8_112 in_mX8_goesWell se_mX8_goesWell (hS.n 51 rfl) (hS.k 51 8 rfl) (by decide) rfl (Nat.le_of_ble_eq_true rfl) (by decide) (by decide) (by decide) (s_mX8_goesWell hS h) (fun r139 I138 J9 h => ?_)
                obtain ⟨rfl, h⟩ := h
                refine V_if_ne 119 dX8_add_114 rfl (fun hc => ?_) (fun hc => ?_)
                · replace h := h.1 hc
                  refine V_bipush (v := 10) dX8_add_119 (by decide) ?_
                  refine V_iload_n dX8_add_121 rfl rfl ?_
                  refine V_imul dX8_add_122 ?_
                  refine V_aload_n dX8_add_123 rfl rfl ?_
                  refine V_getr dX8_add_124 fl_RX8_13 (hS.n 51 rfl) (hS.k 51 8 rfl) rfl (hS.r 51 3 53 rfl) ?_
                  refine V_iload_n dX8_add_127 rfl rfl ?_
                  obtain ⟨hb, h⟩ := h
                  refine V_iald dX8_add_128 (hS.n 53 rfl) (hS.k 53 9 rfl) (by rw [(hS.z 53 4 rfl)]; exact hb) ?_
                  refine V_iadd dX8_add_129 ?_
                  refine V_iconst (v := 3) dX8_add_130 (by decide) ?_
                  refine V_imul dX8_add_131 ?_
                  refine V_topi (fun v140 e_v140 => ?_)
                  replace h := h v140 e_v140
                  refine V_istore (lo2 := [(7, .int v140), (6, .int 0), (5, .int r1), (0, .ref 51), (1, .int a1), (2, .int a2), (3, .int a3), (4, .int a4)]) dX8_add_132 (by decide) rfl ?_
                  refine V_aload_n dX8_add_134 rfl rfl ?_
                  refine V_getr dX8_add_135 fl_RX8_16 (hS.n 51 rfl) (hS.k 51 8 rfl) rfl (hS.r 51 4 54 rfl) ?_
                  refine V_iload dX8_add_138 rfl ?_
                  refine V_iload_n dX8_add_140 rfl rfl ?_
                  obtain ⟨hb, h⟩ := h
                  refine V_iast dX8_add_141 (hS.n 54 rfl) (hS.k 54 9 rfl) (by rw [(hS.z 54 120 rfl)]; exact hb) ?_
                  refine V_memI (fun I141 e_I141 => ?_)
                  replace h := h I141 e_I141
                  refine V_aload_n dX8_add_142 rfl rfl ?_
                  refine V_getr dX8_add_143 fl_RX8_16 (hS.n 51 rfl) (hS.k 51 8 rfl) rfl (hS.r 51 4 54 rfl) ?_
                  refine V_iload dX8_add_146 rfl ?_
                  refine V_iconst (v := 1) dX8_add_148 (by decide) ?_
                  refine V_iadd dX8_add_149 ?_
                  refine V_iload_n dX8_add_150 rfl rfl ?_
                  obtain ⟨hb, h⟩ := h
                  refine V_iast dX8_add_151 (hS.n 54 rfl) (hS.k 54 9 rfl) (by rw [(hS.z 54 120 rfl)]; exact hb) ?_
                  refine V_memI (fun I142 e_I142 => ?_)
                  replace h := h I142 e_I142
                  refine V_aload_n dX8_add_152 rfl rfl ?_
                  refine V_getr dX8_add_153 fl_RX8_16 (hS.n 51 rfl) (hS.k 51 8 rfl) rfl (hS.r 51 4 54 rfl) ?_
                  refine V_iload dX8_add_156 rfl ?_
                  refine V_iconst (v := 2) dX8_add_158 (by decide) ?_
                  refine V_iadd dX8_add_159 ?_
                  refine V_iload dX8_add_160 rfl ?_
                  obtain ⟨hb, h⟩ := h
                  refine V_iast dX8_add_162 (hS.n 54 rfl) (hS.k 54 9 rfl) (by rw [(hS.z 54 120 rfl)]; exact hb) ?_
                  refine V_memI (fun I143 e_I143 => ?_)
                  replace h := h I143 e_I143
                  refine V_aload_n dX8_add_163 rfl rfl ?_
                  refine V_getr dX8_add_164 fl_RX8_13 (hS.n 51 rfl) (hS.k 51 8 rfl) rfl (hS.r 51 3 53 rfl) ?_
                  refine V_iload_n dX8_add_167 rfl rfl ?_
                  refine V_dup2 dX8_add_168 rfl rfl ?_
                  obtain ⟨hb, h⟩ := h
                  refine V_iald dX8_add_169 (hS.n 53 rfl) (hS.k 53 9 rfl) (by rw [(hS.z 53 4 rfl)]; exact hb) ?_
                  refine V_iconst (v := 1) dX8_add_170 (by decide) ?_
                  refine V_iadd dX8_add_171 ?_
                  obtain ⟨hb, h⟩ := h
                  refine V_iast dX8_add_172 (hS.n 53 rfl) (hS.k 53 9 rfl) (by rw [(hS.z 53 4 rfl)]; exact hb) ?_
                  refine V_memI (fun I144 e_I144 => ?_)
                  replace h := h I144 e_I144
                  refine V_aload_n dX8_add_173 rfl rfl ?_
                  refine V_getr dX8_add_174 fl_RX8_13 (hS.n 51 rfl) (hS.k 51 8 rfl) rfl (hS.r 51 3 53 rfl) ?_
                  refine V_iload_n dX8_add_177 rfl rfl ?_
                  obtain ⟨hb, h⟩ := h
                  refine V_iald dX8_add_178 (hS.n 53 rfl) (hS.k 53 9 rfl) (by rw [(hS.z 53 4 rfl)]; exact hb) ?_
                  exact V_iret dX8_add_179 rfl (by decide) (by decide) ⟨_, rfl, rfl, rfl, h⟩
                · replace h := h.2 hc
                  refine V_iconst (v := 0) dX8_add_117 (by decide) ?_
                  exact V_iret dX8_add_118 rfl (by decide) (by decide) ⟨_, rfl, rfl, rfl, h⟩
            · replace h := h.2 hc
              refine V_iconst (v := 1) dX8_add_69 (by decide) ?_
              refine V_goto 74 dX8_add_70 rfl ?_
              refine V_istore (lo2 := [(6, .int 1), (5, .int r1), (0, .ref 51), (1, .int a1), (2, .int a2), (3, .int a3), (4, .int a4)]) dX8_add_74 (by decide) rfl ?_
              refine V_aload_n dX8_add_76 rfl rfl ?_
              refine V_iload dX8_add_77 rfl ?_
              refine V_if_ne 86 dX8_add_79 rfl (fun hc => ?_) (fun hc => ?_)
              · replace h := h.1 hc
                refine V_iload dX8_add_86 rfl ?_
                refine V_if_ne 95 dX8_add_88 rfl (fun hc => ?_) (fun hc => ?_)
                · refine V_aload_n dX8_add_95 rfl rfl ?_
                  refine V_getr dX8_add_96 fl_RX8_13 (hS.n 51 rfl) (hS.k 51 8 rfl) rfl (hS.r 51 3 53 rfl) ?_
                  refine V_iload_n dX8_add_99 rfl rfl ?_
                  obtain ⟨hb, h⟩ := h
                  refine V_iald dX8_add_100 (hS.n 53 rfl) (hS.k 53 9 rfl) (by rw [(hS.z 53 4 rfl)]; exact hb) ?_
                  refine V_bipush (v := 10) dX8_add_101 (by decide) ?_
                  refine V_icmp_ne 110 dX8_add_103 rfl (fun hc => ?_) (fun hc => ?_)
                  · replace h := h.1 hc
                    refine V_iconst (v := 0) dX8_add_110 (by decide) ?_
                    refine V_callVi (st := []) [.int 0] dX8_add_111 ok_mX8_goesWell rfl ml_RX8_112 in_mX8_goesWell se_mX8_goesWell (hS.n 51 rfl) (hS.k 51 8 rfl) (by decide) rfl (Nat.le_of_ble_eq_true rfl) (by decide) (by decide) (by decide) (s_mX8_goesWell hS h) (fun r146 I145 J9 h => ?_)
                    obtain ⟨rfl, h⟩ := h
                    refine V_if_ne 119 dX8_add_114 rfl (fun hc => ?_) (fun hc => ?_)
                    · replace h := h.1 hc
                      refine V_bipush (v := 10) dX8_add_119 (by decide) ?_
                      refine V_iload_n dX8_add_121 rfl rfl ?_
                      refine V_imul dX8_add_122 ?_
                      refine V_aload_n dX8_add_123 rfl rfl ?_
                      refine V_getr dX8_add_124 fl_RX8_13 (hS.n 51 rfl) (hS.k 51 8 rfl) rfl (hS.r 51 3 53 rfl) ?_
                      refine V_iload_n dX8_add_127 rfl rfl ?_
                      obtain ⟨hb, h⟩ := h
                      refine V_iald dX8_add_128 (hS.n 53 rfl) (hS.k 53 9 rfl) (by rw [(hS.z 53 4 rfl)]; exact hb) ?_
                      refine V_iadd dX8_add_129 ?_
                      refine V_iconst (v := 3) dX8_add_130 (by decide) ?_
                      refine V_imul dX8_add_131 ?_
                      refine V_topi (fun v147 e_v147 => ?_)
                      replace h := h v147 e_v147
                      refine V_istore (lo2 := [(7, .int v147), (6, .int 1), (5, .int r1), (0, .ref 51), (1, .int a1), (2, .int a2), (3, .int a3), (4, .int a4)]) dX8_add_132 (by decide) rfl ?_
                      refine V_aload_n dX8_add_134 rfl rfl ?_
                      refine V_getr dX8_add_135 fl_RX8_16 (hS.n 51 rfl) (hS.k 51 8 rfl) rfl (hS.r 51 4 54 rfl) ?_
                      refine V_iload dX8_add_138 rfl ?_
                      refine V_iload_n dX8_add_140 rfl rfl ?_
                      obtain ⟨hb, h⟩ := h
                      refine V_iast dX8_add_141 (hS.n 54 rfl) (hS.k 54 9 rfl) (by rw [(hS.z 54 120 rfl)]; exact hb) ?_
                      refine V_memI (fun I148 e_I148 => ?_)
                      replace h := h I148 e_I148
                      refine V_aload_n dX8_add_142 rfl rfl ?_
                      refine V_getr dX8_add_143 fl_RX8_16 (hS.n 51 rfl) (hS.k 51 8 rfl) rfl (hS.r 51 4 54 rfl) ?_
                      refine V_iload dX8_add_146 rfl ?_
                      refine V_iconst (v := 1) dX8_add_148 (by decide) ?_
                      refine V_iadd dX8_add_149 ?_
                      refine V_iload_n dX8_add_150 rfl rfl ?_
                      obtain ⟨hb, h⟩ := h
                      refine V_iast dX8_add_151 (hS.n 54 rfl) (hS.k 54 9 rfl) (by rw [(hS.z 54 120 rfl)]; exact hb) ?_
                      refine V_memI (fun I149 e_I149 => ?_)
                      replace h := h I149 e_I149
                      refine V_aload_n dX8_add_152 rfl rfl ?_
                      refine V_getr dX8_add_153 fl_RX8_16 (hS.n 51 rfl) (hS.k 51 8 rfl) rfl (hS.r 51 4 54 rfl) ?_
                      refine V_iload dX8_add_156 rfl ?_
                      refine V_iconst (v := 2) dX8_add_158 (by decide) ?_
                      refine V_iadd dX8_add_159 ?_
                      refine V_iload dX8_add_160 rfl ?_
                      obtain ⟨hb, h⟩ := h
                      refine V_iast dX8_add_162 (hS.n 54 rfl) (hS.k 54 9 rfl) (by rw [(hS.z 54 120 rfl)]; exact hb) ?_
                      refine V_memI (fun I150 e_I150 => ?_)
                      replace h := h I150 e_I150
                      refine V_aload_n dX8_add_163 rfl rfl ?_
                      refine V_getr dX8_add_164 fl_RX8_13 (hS.n 51 rfl) (hS.k 51 8 rfl) rfl (hS.r 51 3 53 rfl) ?_
                      refine V_iload_n dX8_add_167 rfl rfl ?_
                      refine V_dup2 dX8_add_168 rfl rfl ?_
                      obtain ⟨hb, h⟩ := h
                      refine V_iald dX8_add_169 (hS.n 53 rfl) (hS.k 53 9 rfl) (by rw [(hS.z 53 4 rfl)]; exact hb) ?_
                      refine V_iconst (v := 1) dX8_add_170 (by decide) ?_
                      refine V_iadd dX8_add_171 ?_
                      obtain ⟨hb, h⟩ := h
                      refine V_iast dX8_add_172 (hS.n 53 rfl) (hS.k 53 9 rfl) (by rw [(hS.z 53 4 rfl)]; exact hb) ?_
                      refine V_memI (fun I151 e_I151 => ?_)
                      replace h := h I151 e_I151
                      refine V_aload_n dX8_add_173 rfl rfl ?_
                      refine V_getr dX8_add_174 fl_RX8_13 (hS.n 51 rfl) (hS.k 51 8 rfl) rfl (hS.r 51 3 53 rfl) ?_
                      refine V_iload_n dX8_add_177 rfl rfl ?_
                      obtain ⟨hb, h⟩ := h
                      refine V_iald dX8_add_178 (hS.n 53 rfl) (hS.k 53 9 rfl) (by rw [(hS.z 53 4 rfl)]; exact hb) ?_
                      exact V_iret dX8_add_179 rfl (by decide) (by decide) ⟨_, rfl, rfl, rfl, h⟩
                    · replace h := h.2 hc
                      refine V_iconst (v := 0) dX8_add_117 (by decide) ?_
                      exact V_iret dX8_add_118 rfl (by decide) (by decide) ⟨_, rfl, rfl, rfl, h⟩
                  · replace h := h.2 hc
                    refine V_iconst (v := 3) dX8_add_106 (by decide) ?_
                    refine V_goto 111 dX8_add_107 rfl ?_
                    refine V_callVi (st := []) [.int 3] dX8_add_111 ok_mX8_goesWell rfl ml_RX8_112 in_mX8_goesWell se_mX8_goesWell (hS.n 51 rfl) (hS.k 51 8 rfl) (by decide) rfl (Nat.le_of_ble_eq_true rfl) (by decide) (by decide) (by decide) (s_mX8_goesWell hS h) (fun r153 I152 J9 h => ?_)
                    obtain ⟨rfl, h⟩ := h
                    refine V_if_ne 119 dX8_add_114 rfl (fun hc => ?_) (fun hc => ?_)
                    · replace h := h.1 hc
                      refine V_bipush (v := 10) dX8_add_119 (by decide) ?_
                      refine V_iload_n dX8_add_121 rfl rfl ?_
                      refine V_imul dX8_add_122 ?_
                      refine V_aload_n dX8_add_123 rfl rfl ?_
                      refine V_getr dX8_add_124 fl_RX8_13 (hS.n 51 rfl) (hS.k 51 8 rfl) rfl (hS.r 51 3 53 rfl) ?_
                      refine V_iload_n dX8_add_127 rfl rfl ?_
                      obtain ⟨hb, h⟩ := h
                      refine V_iald dX8_add_128 (hS.n 53 rfl) (hS.k 53 9 rfl) (by rw [(hS.z 53 4 rfl)]; exact hb) ?_
                      refine V_iadd dX8_add_129 ?_
                      refine V_iconst (v := 3) dX8_add_130 (by decide) ?_
                      refine V_imul dX8_add_131 ?_
                      refine V_topi (fun v154 e_v154 => ?_)
                      replace h := h v154 e_v154
                      refine V_istore (lo2 := [(7, .int v154), (6, .int 1), (5, .int r1), (0, .ref 51), (1, .int a1), (2, .int a2), (3, .int a3), (4, .int a4)]) dX8_add_132 (by decide) rfl ?_
                      refine V_aload_n dX8_add_134 rfl rfl ?_
                      refine V_getr dX8_add_135 fl_RX8_16 (hS.n 51 rfl) (hS.k 51 8 rfl) rfl (hS.r 51 4 54 rfl) ?_
                      refine V_iload dX8_add_138 rfl ?_
                      refine V_iload_n dX8_add_140 rfl rfl ?_
                      obtain ⟨hb, h⟩ := h
                      refine V_iast dX8_add_141 (hS.n 54 rfl) (hS.k 54 9 rfl) (by rw [(hS.z 54 120 rfl)]; exact hb) ?_
                      refine V_memI (fun I155 e_I155 => ?_)
                      replace h := h I155 e_I155
                      refine V_aload_n dX8_add_142 rfl rfl ?_
                      refine V_getr dX8_add_143 fl_RX8_16 (hS.n 51 rfl) (hS.k 51 8 rfl) rfl (hS.r 51 4 54 rfl) ?_
                      refine V_iload dX8_add_146 rfl ?_
                      refine V_iconst (v := 1) dX8_add_148 (by decide) ?_
                      refine V_iadd dX8_add_149 ?_
                      refine V_iload_n dX8_add_150 rfl rfl ?_
                      obtain ⟨hb, h⟩ := h
                      refine V_iast dX8_add_151 (hS.n 54 rfl) (hS.k 54 9 rfl) (by rw [(hS.z 54 120 rfl)]; exact hb) ?_
                      refine V_memI (fun I156 e_I156 => ?_)
                      replace h := h I156 e_I156
                      refine V_aload_n dX8_add_152 rfl rfl ?_
                      refine V_getr dX8_add_153 fl_RX8_16 (hS.n 51 rfl) (hS.k 51 8 rfl) rfl (hS.r 51 4 54 rfl) ?_
                      refine V_iload dX8_add_156 rfl ?_
                      refine V_iconst (v := 2) dX8_add_158 (by decide) ?_
                      refine V_iadd dX8_add_159 ?_
                      refine V_iload dX8_add_160 rfl ?_
                      obtain ⟨hb, h⟩ := h
                      refine V_iast dX8_add_162 (hS.n 54 rfl) (hS.k 54 9 rfl) (by rw [(hS.z 54 120 rfl)]; exact hb) ?_
                      refine V_memI (fun I157 e_I157 => ?_)
                      replace h := h I157 e_I157
                      refine V_aload_n dX8_add_163 rfl rfl ?_
                      refine V_getr dX8_add_164 fl_RX8_13 (hS.n 51 rfl) (hS.k 51 8 rfl) rfl (hS.r 51 3 53 rfl) ?_
                      refine V_iload_n dX8_add_167 rfl rfl ?_
                      refine V_dup2 dX8_add_168 rfl rfl ?_
                      obtain ⟨hb, h⟩ := h
                      refine V_iald dX8_add_169 (hS.n 53 rfl) (hS.k 53 9 rfl) (by rw [(hS.z 53 4 rfl)]; exact hb) ?_
                      refine V_iconst (v := 1) dX8_add_170 (by decide) ?_
                      refine V_iadd dX8_add_171 ?_
                      obtain ⟨hb, h⟩ := h
                      refine V_iast dX8_add_172 (hS.n 53 rfl) (hS.k 53 9 rfl) (by rw [(hS.z 53 4 rfl)]; exact hb) ?_
                      refine V_memI (fun I158 e_I158 => ?_)
                      replace h := h I158 e_I158
                      refine V_aload_n dX8_add_173 rfl rfl ?_
                      refine V_getr dX8_add_174 fl_RX8_13 (hS.n 51 rfl) (hS.k 51 8 rfl) rfl (hS.r 51 3 53 rfl) ?_
                      refine V_iload_n dX8_add_177 rfl rfl ?_
                      obtain ⟨hb, h⟩ := h
                      refine V_iald dX8_add_178 (hS.n 53 rfl) (hS.k 53 9 rfl) (by rw [(hS.z 53 4 rfl)]; exact hb) ?_
                      exact V_iret dX8_add_179 rfl (by decide) (by decide) ⟨_, rfl, rfl, rfl, h⟩
                    · replace h := h.2 hc
                      refine V_iconst (v := 0) dX8_add_117 (by decide) ?_
                      exact V_iret dX8_add_118 rfl (by decide) (by decide) ⟨_, rfl, rfl, rfl, h⟩
                · first | exact absurd hc (by decide) | exact absurd (by decide) hc
              · replace h := h.2 hc
                refine V_iconst (v := 1) dX8_add_82 (by decide) ?_
                refine V_goto 111 dX8_add_83 rfl ?_
                refine V_callVi (st := []) [.int 1] dX8_add_111 ok_mX8_goesWell rfl ml_RX8_112 in_mX8_goesWell se_mX8_goesWell (hS.n 51 rfl) (hS.k 51 8 rfl) (by decide) rfl (Nat.le_of_ble_eq_true rfl) (by decide) (by decide) (by decide) (s_mX8_goesWell hS h) (fun r160 I159 J9 h => ?_)
                obtain ⟨rfl, h⟩ := h
                refine V_if_ne 119 dX8_add_114 rfl (fun hc => ?_) (fun hc => ?_)
                · replace h := h.1 hc
                  refine V_bipush (v := 10) dX8_add_119 (by decide) ?_
                  refine V_iload_n dX8_add_121 rfl rfl ?_
                  refine V_imul dX8_add_122 ?_
                  refine V_aload_n dX8_add_123 rfl rfl ?_
                  refine V_getr dX8_add_124 fl_RX8_13 (hS.n 51 rfl) (hS.k 51 8 rfl) rfl (hS.r 51 3 53 rfl) ?_
                  refine V_iload_n dX8_add_127 rfl rfl ?_
                  obtain ⟨hb, h⟩ := h
                  refine V_iald dX8_add_128 (hS.n 53 rfl) (hS.k 53 9 rfl) (by rw [(hS.z 53 4 rfl)]; exact hb) ?_
                  refine V_iadd dX8_add_129 ?_
                  refine V_iconst (v := 3) dX8_add_130 (by decide) ?_
                  refine V_imul dX8_add_131 ?_
                  refine V_topi (fun v161 e_v161 => ?_)
                  replace h := h v161 e_v161
                  refine V_istore (lo2 := [(7, .int v161), (6, .int 1), (5, .int r1), (0, .ref 51), (1, .int a1), (2, .int a2), (3, .int a3), (4, .int a4)]) dX8_add_132 (by decide) rfl ?_
                  refine V_aload_n dX8_add_134 rfl rfl ?_
                  refine V_getr dX8_add_135 fl_RX8_16 (hS.n 51 rfl) (hS.k 51 8 rfl) rfl (hS.r 51 4 54 rfl) ?_
                  refine V_iload dX8_add_138 rfl ?_
                  refine V_iload_n dX8_add_140 rfl rfl ?_
                  obtain ⟨hb, h⟩ := h
                  refine V_iast dX8_add_141 (hS.n 54 rfl) (hS.k 54 9 rfl) (by rw [(hS.z 54 120 rfl)]; exact hb) ?_
                  refine V_memI (fun I162 e_I162 => ?_)
                  replace h := h I162 e_I162
                  refine V_aload_n dX8_add_142 rfl rfl ?_
                  refine V_getr dX8_add_143 fl_RX8_16 (hS.n 51 rfl) (hS.k 51 8 rfl) rfl (hS.r 51 4 54 rfl) ?_
                  refine V_iload dX8_add_146 rfl ?_
                  refine V_iconst (v := 1) dX8_add_148 (by decide) ?_
                  refine V_iadd dX8_add_149 ?_
                  refine V_iload_n dX8_add_150 rfl rfl ?_
                  obtain ⟨hb, h⟩ := h
                  refine V_iast dX8_add_151 (hS.n 54 rfl) (hS.k 54 9 rfl) (by rw [(hS.z 54 120 rfl)]; exact hb) ?_
                  refine V_memI (fun I163 e_I163 => ?_)
                  replace h := h I163 e_I163
                  refine V_aload_n dX8_add_152 rfl rfl ?_
                  refine V_getr dX8_add_153 fl_RX8_16 (hS.n 51 rfl) (hS.k 51 8 rfl) rfl (hS.r 51 4 54 rfl) ?_
                  refine V_iload dX8_add_156 rfl ?_
                  refine V_iconst (v := 2) dX8_add_158 (by decide) ?_
                  refine V_iadd dX8_add_159 ?_
                  refine V_iload dX8_add_160 rfl ?_
                  obtain ⟨hb, h⟩ := h
                  refine V_iast dX8_add_162 (hS.n 54 rfl) (hS.k 54 9 rfl) (by rw [(hS.z 54 120 rfl)]; exact hb) ?_
                  refine V_memI (fun I164 e_I164 => ?_)
                  replace h := h I164 e_I164
                  refine V_aload_n dX8_add_163 rfl rfl ?_
                  refine V_getr dX8_add_164 fl_RX8_13 (hS.n 51 rfl) (hS.k 51 8 rfl) rfl (hS.r 51 3 53 rfl) ?_
                  refine V_iload_n dX8_add_167 rfl rfl ?_
                  refine V_dup2 dX8_add_168 rfl rfl ?_
                  obtain ⟨hb, h⟩ := h
                  refine V_iald dX8_add_169 (hS.n 53 rfl) (hS.k 53 9 rfl) (by rw [(hS.z 53 4 rfl)]; exact hb) ?_
                  refine V_iconst (v := 1) dX8_add_170 (by decide) ?_
                  refine V_iadd dX8_add_171 ?_
                  obtain ⟨hb, h⟩ := h
                  refine V_iast dX8_add_172 (hS.n 53 rfl) (hS.k 53 9 rfl) (by rw [(hS.z 53 4 rfl)]; exact hb) ?_
                  refine V_memI (fun I165 e_I165 => ?_)
                  replace h := h I165 e_I165
                  refine V_aload_n dX8_add_173 rfl rfl ?_
                  refine V_getr dX8_add_174 fl_RX8_13 (hS.n 51 rfl) (hS.k 51 8 rfl) rfl (hS.r 51 3 53 rfl) ?_
                  refine V_iload_n dX8_add_177 rfl rfl ?_
                  obtain ⟨hb, h⟩ := h
                  refine V_iald dX8_add_178 (hS.n 53 rfl) (hS.k 53 9 rfl) (by rw [(hS.z 53 4 rfl)]; exact hb) ?_
                  exact V_iret dX8_add_179 rfl (by decide) (by decide) ⟨_, rfl, rfl, rfl, h⟩
                · replace h := h.2 hc
                  refine V_iconst (v := 0) dX8_add_117 (by decide) ?_
                  exact V_iret dX8_add_118 rfl (by decide) (by decide) ⟨_, rfl, rfl, rfl, h⟩
          · replace h := h.2 hc
            refine V_iload dX8_add_53 rfl ?_
            refine V_callSi (st := []) [.int a4] dX8_add_55 ok_mX8_isValue rfl ml_RX8_115 st_mX8_isValue (Nat.le_of_ble_eq_true rfl) (by decide) (by decide) (by decide) (s_mX8_isValue hS h) (fun r166 I9 J9 h => ?_)
            obtain ⟨rfl, rfl, h⟩ := h
            refine V_if_eq 73 dX8_add_58 rfl (fun hc => ?_) (fun hc => ?_)
            · replace h := h.1 hc
              refine V_iconst (v := 0) dX8_add_73 (by decide) ?_
              refine V_istore (lo2 := [(6, .int 0), (5, .int r1), (0, .ref 51), (1, .int a1), (2, .int a2), (3, .int a3), (4, .int a4)]) dX8_add_74 (by decide) rfl ?_
              refine V_aload_n dX8_add_76 rfl rfl ?_
              refine V_iload dX8_add_77 rfl ?_
              refine V_if_ne 86 dX8_add_79 rfl (fun hc => ?_) (fun hc => ?_)
              · replace h := h.1 hc
                refine V_iload dX8_add_86 rfl ?_
                refine V_if_ne 95 dX8_add_88 rfl (fun hc => ?_) (fun hc => ?_)
                · first | exact absurd hc (by decide) | exact absurd (by decide) hc
                · refine V_iconst (v := 2) dX8_add_91 (by decide) ?_
                  refine V_goto 111 dX8_add_92 rfl ?_
                  refine V_callVi (st := []) [.int 2] dX8_add_111 ok_mX8_goesWell rfl ml_RX8_112 in_mX8_goesWell se_mX8_goesWell (hS.n 51 rfl) (hS.k 51 8 rfl) (by decide) rfl (Nat.le_of_ble_eq_true rfl) (by decide) (by decide) (by decide) (s_mX8_goesWell hS h) (fun r168 I167 J9 h => ?_)
                  obtain ⟨rfl, h⟩ := h
                  refine V_if_ne 119 dX8_add_114 rfl (fun hc => ?_) (fun hc => ?_)
                  · replace h := h.1 hc
                    refine V_bipush (v := 10) dX8_add_119 (by decide) ?_
                    refine V_iload_n dX8_add_121 rfl rfl ?_
                    refine V_imul dX8_add_122 ?_
                    refine V_aload_n dX8_add_123 rfl rfl ?_
                    refine V_getr dX8_add_124 fl_RX8_13 (hS.n 51 rfl) (hS.k 51 8 rfl) rfl (hS.r 51 3 53 rfl) ?_
                    refine V_iload_n dX8_add_127 rfl rfl ?_
                    obtain ⟨hb, h⟩ := h
                    refine V_iald dX8_add_128 (hS.n 53 rfl) (hS.k 53 9 rfl) (by rw [(hS.z 53 4 rfl)]; exact hb) ?_
                    refine V_iadd dX8_add_129 ?_
                    refine V_iconst (v := 3) dX8_add_130 (by decide) ?_
                    refine V_imul dX8_add_131 ?_
                    refine V_topi (fun v169 e_v169 => ?_)
                    replace h := h v169 e_v169
                    refine V_istore (lo2 := [(7, .int v169), (6, .int 0), (5, .int r1), (0, .ref 51), (1, .int a1), (2, .int a2), (3, .int a3), (4, .int a4)]) dX8_add_132 (by decide) rfl ?_
                    refine V_aload_n dX8_add_134 rfl rfl ?_
                    refine V_getr dX8_add_135 fl_RX8_16 (hS.n 51 rfl) (hS.k 51 8 rfl) rfl (hS.r 51 4 54 rfl) ?_
                    refine V_iload dX8_add_138 rfl ?_
                    refine V_iload_n dX8_add_140 rfl rfl ?_
                    obtain ⟨hb, h⟩ := h
                    refine V_iast dX8_add_141 (hS.n 54 rfl) (hS.k 54 9 rfl) (by rw [(hS.z 54 120 rfl)]; exact hb) ?_
                    refine V_memI (fun I170 e_I170 => ?_)
                    replace h := h I170 e_I170
                    refine V_aload_n dX8_add_142 rfl rfl ?_
                    refine V_getr dX8_add_143 fl_RX8_16 (hS.n 51 rfl) (hS.k 51 8 rfl) rfl (hS.r 51 4 54 rfl) ?_
                    refine V_iload dX8_add_146 rfl ?_
                    refine V_iconst (v := 1) dX8_add_148 (by decide) ?_
                    refine V_iadd dX8_add_149 ?_
                    refine V_iload_n dX8_add_150 rfl rfl ?_
                    obtain ⟨hb, h⟩ := h
                    refine V_iast dX8_add_151 (hS.n 54 rfl) (hS.k 54 9 rfl) (by rw [(hS.z 54 120 rfl)]; exact hb) ?_
                    refine V_memI (fun I171 e_I171 => ?_)
                    replace h := h I171 e_I171
                    refine V_aload_n dX8_add_152 rfl rfl ?_
                    refine V_getr dX8_add_153 fl_RX8_16 (hS.n 51 rfl) (hS.k 51 8 rfl) rfl (hS.r 51 4 54 rfl) ?_
                    refine V_iload dX8_add_156 rfl ?_
                    refine V_iconst (v := 2) dX8_add_158 (by decide) ?_
                    refine V_iadd dX8_add_159 ?_
                    refine V_iload dX8_add_160 rfl ?_
                    obtain ⟨hb, h⟩ := h
                    refine V_iast dX8_add_162 (hS.n 54 rfl) (hS.k 54 9 rfl) (by rw [(hS.z 54 120 rfl)]; exact hb) ?_
                    refine V_memI (fun I172 e_I172 => ?_)
                    replace h := h I172 e_I172
                    refine V_aload_n dX8_add_163 rfl rfl ?_
                    refine V_getr dX8_add_164 fl_RX8_13 (hS.n 51 rfl) (hS.k 51 8 rfl) rfl (hS.r 51 3 53 rfl) ?_
                    refine V_iload_n dX8_add_167 rfl rfl ?_
                    refine V_dup2 dX8_add_168 rfl rfl ?_
                    obtain ⟨hb, h⟩ := h
                    refine V_iald dX8_add_169 (hS.n 53 rfl) (hS.k 53 9 rfl) (by rw [(hS.z 53 4 rfl)]; exact hb) ?_
                    refine V_iconst (v := 1) dX8_add_170 (by decide) ?_
                    refine V_iadd dX8_add_171 ?_
                    obtain ⟨hb, h⟩ := h
                    refine V_iast dX8_add_172 (hS.n 53 rfl) (hS.k 53 9 rfl) (by rw [(hS.z 53 4 rfl)]; exact hb) ?_
                    refine V_memI (fun I173 e_I173 => ?_)
                    replace h := h I173 e_I173
                    refine V_aload_n dX8_add_173 rfl rfl ?_
                    refine V_getr dX8_add_174 fl_RX8_13 (hS.n 51 rfl) (hS.k 51 8 rfl) rfl (hS.r 51 3 53 rfl) ?_
                    refine V_iload_n dX8_add_177 rfl rfl ?_
                    obtain ⟨hb, h⟩ := h
                    refine V_iald dX8_add_178 (hS.n 53 rfl) (hS.k 53 9 rfl) (by rw [(hS.z 53 4 rfl)]; exact hb) ?_
                    exact V_iret dX8_add_179 rfl (by decide) (by decide) ⟨_, rfl, rfl, rfl, h⟩
                  · replace h := h.2 hc
                    refine V_iconst (v := 0) dX8_add_117 (by decide) ?_
                    exact V_iret dX8_add_118 rfl (by decide) (by decide) ⟨_, rfl, rfl, rfl, h⟩
              · replace h := h.2 hc
                refine V_iconst (v := 1) dX8_add_82 (by decide) ?_
                refine V_goto 111 dX8_add_83 rfl ?_
                refine V_callVi (st := []) [.int 1] dX8_add_111 ok_mX8_goesWell rfl ml_RX8_112 in_mX8_goesWell se_mX8_goesWell (hS.n 51 rfl) (hS.k 51 8 rfl) (by decide) rfl (Nat.le_of_ble_eq_true rfl) (by decide) (by decide) (by decide) (s_mX8_goesWell hS h) (fun r175 I174 J9 h => ?_)
                obtain ⟨rfl, h⟩ := h
                refine V_if_ne 119 dX8_add_114 rfl (fun hc => ?_) (fun hc => ?_)
                · replace h := h.1 hc
                  refine V_bipush (v := 10) dX8_add_119 (by decide) ?_
                  refine V_iload_n dX8_add_121 rfl rfl ?_
                  refine V_imul dX8_add_122 ?_
                  refine V_aload_n dX8_add_123 rfl rfl ?_
                  refine V_getr dX8_add_124 fl_RX8_13 (hS.n 51 rfl) (hS.k 51 8 rfl) rfl (hS.r 51 3 53 rfl) ?_
                  refine V_iload_n dX8_add_127 rfl rfl ?_
                  obtain ⟨hb, h⟩ := h
                  refine V_iald dX8_add_128 (hS.n 53 rfl) (hS.k 53 9 rfl) (by rw [(hS.z 53 4 rfl)]; exact hb) ?_
                  refine V_iadd dX8_add_129 ?_
                  refine V_iconst (v := 3) dX8_add_130 (by decide) ?_
                  refine V_imul dX8_add_131 ?_
                  refine V_topi (fun v176 e_v176 => ?_)
                  replace h := h v176 e_v176
                  refine V_istore (lo2 := [(7, .int v176), (6, .int 0), (5, .int r1), (0, .ref 51), (1, .int a1), (2, .int a2), (3, .int a3), (4, .int a4)]) dX8_add_132 (by decide) rfl ?_
                  refine V_aload_n dX8_add_134 rfl rfl ?_
                  refine V_getr dX8_add_135 fl_RX8_16 (hS.n 51 rfl) (hS.k 51 8 rfl) rfl (hS.r 51 4 54 rfl) ?_
                  refine V_iload dX8_add_138 rfl ?_
                  refine V_iload_n dX8_add_140 rfl rfl ?_
                  obtain ⟨hb, h⟩ := h
                  refine V_iast dX8_add_141 (hS.n 54 rfl) (hS.k 54 9 rfl) (by rw [(hS.z 54 120 rfl)]; exact hb) ?_
                  refine V_memI (fun I177 e_I177 => ?_)
                  replace h := h I177 e_I177
                  refine V_aload_n dX8_add_142 rfl rfl ?_
                  refine V_getr dX8_add_143 fl_RX8_16 (hS.n 51 rfl) (hS.k 51 8 rfl) rfl (hS.r 51 4 54 rfl) ?_
                  refine V_iload dX8_add_146 rfl ?_
                  refine V_iconst (v := 1) dX8_add_148 (by decide) ?_
                  refine V_iadd dX8_add_149 ?_
                  refine V_iload_n dX8_add_150 rfl rfl ?_
                  obtain ⟨hb, h⟩ := h
                  refine V_iast dX8_add_151 (hS.n 54 rfl) (hS.k 54 9 rfl) (by rw [(hS.z 54 120 rfl)]; exact hb) ?_
                  refine V_memI (fun I178 e_I178 => ?_)
                  replace h := h I178 e_I178
                  refine V_aload_n dX8_add_152 rfl rfl ?_
                  refine V_getr dX8_add_153 fl_RX8_16 (hS.n 51 rfl) (hS.k 51 8 rfl) rfl (hS.r 51 4 54 rfl) ?_
                  refine V_iload dX8_add_156 rfl ?_
                  refine V_iconst (v := 2) dX8_add_158 (by decide) ?_
                  refine V_iadd dX8_add_159 ?_
                  refine V_iload dX8_add_160 rfl ?_
                  obtain ⟨hb, h⟩ := h
                  refine V_iast dX8_add_162 (hS.n 54 rfl) (hS.k 54 9 rfl) (by rw [(hS.z 54 120 rfl)]; exact hb) ?_
                  refine V_memI (fun I179 e_I179 => ?_)
                  replace h := h I179 e_I179
                  refine V_aload_n dX8_add_163 rfl rfl ?_
                  refine V_getr dX8_add_164 fl_RX8_13 (hS.n 51 rfl) (hS.k 51 8 rfl) rfl (hS.r 51 3 53 rfl) ?_
                  refine V_iload_n dX8_add_167 rfl rfl ?_
                  refine V_dup2 dX8_add_168 rfl rfl ?_
                  obtain ⟨hb, h⟩ := h
                  refine V_iald dX8_add_169 (hS.n 53 rfl) (hS.k 53 9 rfl) (by rw [(hS.z 53 4 rfl)]; exact hb) ?_
                  refine V_iconst (v := 1) dX8_add_170 (by decide) ?_
                  refine V_iadd dX8_add_171 ?_
                  obtain ⟨hb, h⟩ := h
                  refine V_iast dX8_add_172 (hS.n 53 rfl) (hS.k 53 9 rfl) (by rw [(hS.z 53 4 rfl)]; exact hb) ?_
                  refine V_memI (fun I180 e_I180 => ?_)
                  replace h := h I180 e_I180
                  refine V_aload_n dX8_add_173 rfl rfl ?_
                  refine V_getr dX8_add_174 fl_RX8_13 (hS.n 51 rfl) (hS.k 51 8 rfl) rfl (hS.r 51 3 53 rfl) ?_
                  refine V_iload_n dX8_add_177 rfl rfl ?_
                  obtain ⟨hb, h⟩ := h
                  refine V_iald dX8_add_178 (hS.n 53 rfl) (hS.k 53 9 rfl) (by rw [(hS.z 53 4 rfl)]; exact hb) ?_
                  exact V_iret dX8_add_179 rfl (by decide) (by decide) ⟨_, rfl, rfl, rfl, h⟩
                · replace h := h.2 hc
                  refine V_iconst (v := 0) dX8_add_117 (by decide) ?_
                  exact V_iret dX8_add_118 rfl (by decide) (by decide) ⟨_, rfl, rfl, rfl, h⟩
            · replace h := h.2 hc
              refine V_goto 69 dX8_add_61 rfl ?_
              refine V_iconst (v := 1) dX8_add_69 (by decide) ?_
              refine V_goto 74 dX8_add_70 rfl ?_
              refine V_istore (lo2 := [(6, .int 1), (5, .int r1), (0, .ref 51), (1, .int a1), (2, .int a2), (3, .int a3), (4, .int a4)]) dX8_add_74 (by decide) rfl ?_
              refine V_aload_n dX8_add_76 rfl rfl ?_
              refine V_iload dX8_add_77 rfl ?_
              refine V_if_ne 86 dX8_add_79 rfl (fun hc => ?_) (fun hc => ?_)
              · replace h := h.1 hc
                refine V_iload dX8_add_86 rfl ?_
                refine V_if_ne 95 dX8_add_88 rfl (fun hc => ?_) (fun hc => ?_)
                · refine V_aload_n dX8_add_95 rfl rfl ?_
                  refine V_getr dX8_add_96 fl_RX8_13 (hS.n 51 rfl) (hS.k 51 8 rfl) rfl (hS.r 51 3 53 rfl) ?_
                  refine V_iload_n dX8_add_99 rfl rfl ?_
                  obtain ⟨hb, h⟩ := h
                  refine V_iald dX8_add_100 (hS.n 53 rfl) (hS.k 53 9 rfl) (by rw [(hS.z 53 4 rfl)]; exact hb) ?_
                  refine V_bipush (v := 10) dX8_add_101 (by decide) ?_
                  refine V_icmp_ne 110 dX8_add_103 rfl (fun hc => ?_) (fun hc => ?_)
                  · replace h := h.1 hc
                    refine V_iconst (v := 0) dX8_add_110 (by decide) ?_
                    refine V_callVi (st := []) [.int 0] dX8_add_111 ok_mX8_goesWell rfl ml_RX8_112 in_mX8_goesWell se_mX8_goesWell (hS.n 51 rfl) (hS.k 51 8 rfl) (by decide) rfl (Nat.le_of_ble_eq_true rfl) (by decide) (by decide) (by decide) (s_mX8_goesWell hS h) (fun r182 I181 J9 h => ?_)
                    obtain ⟨rfl, h⟩ := h
                    refine V_if_ne 119 dX8_add_114 rfl (fun hc => ?_) (fun hc => ?_)
                    · replace h := h.1 hc
                      refine V_bipush (v := 10) dX8_add_119 (by decide) ?_
                      refine V_iload_n dX8_add_121 rfl rfl ?_
                      refine V_imul dX8_add_122 ?_
                      refine V_aload_n dX8_add_123 rfl rfl ?_
                      refine V_getr dX8_add_124 fl_RX8_13 (hS.n 51 rfl) (hS.k 51 8 rfl) rfl (hS.r 51 3 53 rfl) ?_
                      refine V_iload_n dX8_add_127 rfl rfl ?_
                      obtain ⟨hb, h⟩ := h
                      refine V_iald dX8_add_128 (hS.n 53 rfl) (hS.k 53 9 rfl) (by rw [(hS.z 53 4 rfl)]; exact hb) ?_
                      refine V_iadd dX8_add_129 ?_
                      refine V_iconst (v := 3) dX8_add_130 (by decide) ?_
                      refine V_imul dX8_add_131 ?_
                      refine V_topi (fun v183 e_v183 => ?_)
                      replace h := h v183 e_v183
                      refine V_istore (lo2 := [(7, .int v183), (6, .int 1), (5, .int r1), (0, .ref 51), (1, .int a1), (2, .int a2), (3, .int a3), (4, .int a4)]) dX8_add_132 (by decide) rfl ?_
                      refine V_aload_n dX8_add_134 rfl rfl ?_
                      refine V_getr dX8_add_135 fl_RX8_16 (hS.n 51 rfl) (hS.k 51 8 rfl) rfl (hS.r 51 4 54 rfl) ?_
                      refine V_iload dX8_add_138 rfl ?_
                      refine V_iload_n dX8_add_140 rfl rfl ?_
                      obtain ⟨hb, h⟩ := h
                      refine V_iast dX8_add_141 (hS.n 54 rfl) (hS.k 54 9 rfl) (by rw [(hS.z 54 120 rfl)]; exact hb) ?_
                      refine V_memI (fun I184 e_I184 => ?_)
                      replace h := h I184 e_I184
                      refine V_aload_n dX8_add_142 rfl rfl ?_
                      refine V_getr dX8_add_143 fl_RX8_16 (hS.n 51 rfl) (hS.k 51 8 rfl) rfl (hS.r 51 4 54 rfl) ?_
                      refine V_iload dX8_add_146 rfl ?_
                      refine V_iconst (v := 1) dX8_add_148 (by decide) ?_
                      refine V_iadd dX8_add_149 ?_
                      refine V_iload_n dX8_add_150 rfl rfl ?_
                      obtain ⟨hb, h⟩ := h
                      refine V_iast dX8_add_151 (hS.n 54 rfl) (hS.k 54 9 rfl) (by rw [(hS.z 54 120 rfl)]; exact hb) ?_
                      refine V_memI (fun I185 e_I185 => ?_)
                      replace h := h I185 e_I185
                      refine V_aload_n dX8_add_152 rfl rfl ?_
                      refine V_getr dX8_add_153 fl_RX8_16 (hS.n 51 rfl) (hS.k 51 8 rfl) rfl (hS.r 51 4 54 rfl) ?_
                      refine V_iload dX8_add_156 rfl ?_
                      refine V_iconst (v := 2) dX8_add_158 (by decide) ?_
                      refine V_iadd dX8_add_159 ?_
                      refine V_iload dX8_add_160 rfl ?_
                      obtain ⟨hb, h⟩ := h
                      refine V_iast dX8_add_162 (hS.n 54 rfl) (hS.k 54 9 rfl) (by rw [(hS.z 54 120 rfl)]; exact hb) ?_
                      refine V_memI (fun I186 e_I186 => ?_)
                      replace h := h I186 e_I186
                      refine V_aload_n dX8_add_163 rfl rfl ?_
                      refine V_getr dX8_add_164 fl_RX8_13 (hS.n 51 rfl) (hS.k 51 8 rfl) rfl (hS.r 51 3 53 rfl) ?_
                      refine V_iload_n dX8_add_167 rfl rfl ?_
                      refine V_dup2 dX8_add_168 rfl rfl ?_
                      obtain ⟨hb, h⟩ := h
                      refine V_iald dX8_add_169 (hS.n 53 rfl) (hS.k 53 9 rfl) (by rw [(hS.z 53 4 rfl)]; exact hb) ?_
                      refine V_iconst (v := 1) dX8_add_170 (by decide) ?_
                      refine V_iadd dX8_add_171 ?_
                      obtain ⟨hb, h⟩ := h
                      refine V_iast dX8_add_172 (hS.n 53 rfl) (hS.k 53 9 rfl) (by rw [(hS.z 53 4 rfl)]; exact hb) ?_
                      refine V_memI (fun I187 e_I187 => ?_)
                      replace h := h I187 e_I187
                      refine V_aload_n dX8_add_173 rfl rfl ?_
                      refine V_getr dX8_add_174 fl_RX8_13 (hS.n 51 rfl) (hS.k 51 8 rfl) rfl (hS.r 51 3 53 rfl) ?_
                      refine V_iload_n dX8_add_177 rfl rfl ?_
                      obtain ⟨hb, h⟩ := h
                      refine V_iald dX8_add_178 (hS.n 53 rfl) (hS.k 53 9 rfl) (by rw [(hS.z 53 4 rfl)]; exact hb) ?_
                      exact V_iret dX8_add_179 rfl (by decide) (by decide) ⟨_, rfl, rfl, rfl, h⟩
                    · replace h := h.2 hc
                      refine V_iconst (v := 0) dX8_add_117 (by decide) ?_
                      exact V_iret dX8_add_118 rfl (by decide) (by decide) ⟨_, rfl, rfl, rfl, h⟩
                  · replace h := h.2 hc
                    refine V_iconst (v := 3) dX8_add_106 (by decide) ?_
                    refine V_goto 111 dX8_add_107 rfl ?_
                    refine V_callVi (st := []) [.int 3] dX8_add_111 ok_mX8_goesWell rfl ml_RX8_112 in_mX8_goesWell se_mX8_goesWell (hS.n 51 rfl) (hS.k 51 8 rfl) (by decide) rfl (Nat.le_of_ble_eq_true rfl) (by decide) (by decide) (by decide) (s_mX8_goesWell hS h) (fun r189 I188 J9 h => ?_)
                    obtain ⟨rfl, h⟩ := h
                    refine V_if_ne 119 dX8_add_114 rfl (fun hc => ?_) (fun hc => ?_)
                    · replace h := h.1 hc
                      refine V_bipush (v := 10) dX8_add_119 (by decide) ?_
                      refine V_iload_n dX8_add_121 rfl rfl ?_
                      refine V_imul dX8_add_122 ?_
                      refine V_aload_n dX8_add_123 rfl rfl ?_
                      refine V_getr dX8_add_124 fl_RX8_13 (hS.n 51 rfl) (hS.k 51 8 rfl) rfl (hS.r 51 3 53 rfl) ?_
                      refine V_iload_n dX8_add_127 rfl rfl ?_
                      obtain ⟨hb, h⟩ := h
                      refine V_iald dX8_add_128 (hS.n 53 rfl) (hS.k 53 9 rfl) (by rw [(hS.z 53 4 rfl)]; exact hb) ?_
                      refine V_iadd dX8_add_129 ?_
                      refine V_iconst (v := 3) dX8_add_130 (by decide) ?_
                      refine V_imul dX8_add_131 ?_
                      refine V_topi (fun v190 e_v190 => ?_)
                      replace h := h v190 e_v190
                      refine V_istore (lo2 := [(7, .int v190), (6, .int 1), (5, .int r1), (0, .ref 51), (1, .int a1), (2, .int a2), (3, .int a3), (4, .int a4)]) dX8_add_132 (by decide) rfl ?_
                      refine V_aload_n dX8_add_134 rfl rfl ?_
                      refine V_getr dX8_add_135 fl_RX8_16 (hS.n 51 rfl) (hS.k 51 8 rfl) rfl (hS.r 51 4 54 rfl) ?_
                      refine V_iload dX8_add_138 rfl ?_
                      refine V_iload_n dX8_add_140 rfl rfl ?_
                      obtain ⟨hb, h⟩ := h
                      refine V_iast dX8_add_141 (hS.n 54 rfl) (hS.k 54 9 rfl) (by rw [(hS.z 54 120 rfl)]; exact hb) ?_
                      refine V_memI (fun I191 e_I191 => ?_)
                      replace h := h I191 e_I191
                      refine V_aload_n dX8_add_142 rfl rfl ?_
                      refine V_getr dX8_add_143 fl_RX8_16 (hS.n 51 rfl) (hS.k 51 8 rfl) rfl (hS.r 51 4 54 rfl) ?_
                      refine V_iload dX8_add_146 rfl ?_
                      refine V_iconst (v := 1) dX8_add_148 (by decide) ?_
                      refine V_iadd dX8_add_149 ?_
                      refine V_iload_n dX8_add_150 rfl rfl ?_
                      obtain ⟨hb, h⟩ := h
                      refine V_iast dX8_add_151 (hS.n 54 rfl) (hS.k 54 9 rfl) (by rw [(hS.z 54 120 rfl)]; exact hb) ?_
                      refine V_memI (fun I192 e_I192 => ?_)
                      replace h := h I192 e_I192
                      refine V_aload_n dX8_add_152 rfl rfl ?_
                      refine V_getr dX8_add_153 fl_RX8_16 (hS.n 51 rfl) (hS.k 51 8 rfl) rfl (hS.r 51 4 54 rfl) ?_
                      refine V_iload dX8_add_156 rfl ?_
                      refine V_iconst (v := 2) dX8_add_158 (by decide) ?_
                      refine V_iadd dX8_add_159 ?_
                      refine V_iload dX8_add_160 rfl ?_
                      obtain ⟨hb, h⟩ := h
                      refine V_iast dX8_add_162 (hS.n 54 rfl) (hS.k 54 9 rfl) (by rw [(hS.z 54 120 rfl)]; exact hb) ?_
                      refine V_memI (fun I193 e_I193 => ?_)
                      replace h := h I193 e_I193
                      refine V_aload_n dX8_add_163 rfl rfl ?_
                      refine V_getr dX8_add_164 fl_RX8_13 (hS.n 51 rfl) (hS.k 51 8 rfl) rfl (hS.r 51 3 53 rfl) ?_
                      refine V_iload_n dX8_add_167 rfl rfl ?_
                      refine V_dup2 dX8_add_168 rfl rfl ?_
                      obtain ⟨hb, h⟩ := h
                      refine V_iald dX8_add_169 (hS.n 53 rfl) (hS.k 53 9 rfl) (by rw [(hS.z 53 4 rfl)]; exact hb) ?_
                      refine V_iconst (v := 1) dX8_add_170 (by decide) ?_
                      refine V_iadd dX8_add_171 ?_
                      obtain ⟨hb, h⟩ := h
                      refine V_iast dX8_add_172 (hS.n 53 rfl) (hS.k 53 9 rfl) (by rw [(hS.z 53 4 rfl)]; exact hb) ?_
                      refine V_memI (fun I194 e_I194 => ?_)
                      replace h := h I194 e_I194
                      refine V_aload_n dX8_add_173 rfl rfl ?_
                      refine V_getr dX8_add_174 fl_RX8_13 (hS.n 51 rfl) (hS.k 51 8 rfl) rfl (hS.r 51 3 53 rfl) ?_
                      refine V_iload_n dX8_add_177 rfl rfl ?_
                      obtain ⟨hb, h⟩ := h
                      refine V_iald dX8_add_178 (hS.n 53 rfl) (hS.k 53 9 rfl) (by rw [(hS.z 53 4 rfl)]; exact hb) ?_
                      exact V_iret dX8_add_179 rfl (by decide) (by decide) ⟨_, rfl, rfl, rfl, h⟩
                    · replace h := h.2 hc
                      refine V_iconst (v := 0) dX8_add_117 (by decide) ?_
                      exact V_iret dX8_add_118 rfl (by decide) (by decide) ⟨_, rfl, rfl, rfl, h⟩
                · first | exact absurd hc (by decide) | exact absurd (by decide) hc
              · replace h := h.2 hc
                refine V_iconst (v := 1) dX8_add_82 (by decide) ?_
                refine V_goto 111 dX8_add_83 rfl ?_
                refine V_callVi (st := []) [.int 1] dX8_add_111 ok_mX8_goesWell rfl ml_RX8_112 in_mX8_goesWell se_mX8_goesWell (hS.n 51 rfl) (hS.k 51 8 rfl) (by decide) rfl (Nat.le_of_ble_eq_true rfl) (by decide) (by decide) (by decide) (s_mX8_goesWell hS h) (fun r196 I195 J9 h => ?_)
                obtain ⟨rfl, h⟩ := h
                refine V_if_ne 119 dX8_add_114 rfl (fun hc => ?_) (fun hc => ?_)
                · replace h := h.1 hc
                  refine V_bipush (v := 10) dX8_add_119 (by decide) ?_
                  refine V_iload_n dX8_add_121 rfl rfl ?_
                  refine V_imul dX8_add_122 ?_
                  refine V_aload_n dX8_add_123 rfl rfl ?_
                  refine V_getr dX8_add_124 fl_RX8_13 (hS.n 51 rfl) (hS.k 51 8 rfl) rfl (hS.r 51 3 53 rfl) ?_
                  refine V_iload_n dX8_add_127 rfl rfl ?_
                  obtain ⟨hb, h⟩ := h
                  refine V_iald dX8_add_128 (hS.n 53 rfl) (hS.k 53 9 rfl) (by rw [(hS.z 53 4 rfl)]; exact hb) ?_
                  refine V_iadd dX8_add_129 ?_
                  refine V_iconst (v := 3) dX8_add_130 (by decide) ?_
                  refine V_imul dX8_add_131 ?_
                  refine V_topi (fun v197 e_v197 => ?_)
                  replace h := h v197 e_v197
                  refine V_istore (lo2 := [(7, .int v197), (6, .int 1), (5, .int r1), (0, .ref 51), (1, .int a1), (2, .int a2), (3, .int a3), (4, .int a4)]) dX8_add_132 (by decide) rfl ?_
                  refine V_aload_n dX8_add_134 rfl rfl ?_
                  refine V_getr dX8_add_135 fl_RX8_16 (hS.n 51 rfl) (hS.k 51 8 rfl) rfl (hS.r 51 4 54 rfl) ?_
                  refine V_iload dX8_add_138 rfl ?_
                  refine V_iload_n dX8_add_140 rfl rfl ?_
                  obtain ⟨hb, h⟩ := h
                  refine V_iast dX8_add_141 (hS.n 54 rfl) (hS.k 54 9 rfl) (by rw [(hS.z 54 120 rfl)]; exact hb) ?_
                  refine V_memI (fun I198 e_I198 => ?_)
                  replace h := h I198 e_I198
                  refine V_aload_n dX8_add_142 rfl rfl ?_
                  refine V_getr dX8_add_143 fl_RX8_16 (hS.n 51 rfl) (hS.k 51 8 rfl) rfl (hS.r 51 4 54 rfl) ?_
                  refine V_iload dX8_add_146 rfl ?_
                  refine V_iconst (v := 1) dX8_add_148 (by decide) ?_
                  refine V_iadd dX8_add_149 ?_
                  refine V_iload_n dX8_add_150 rfl rfl ?_
                  obtain ⟨hb, h⟩ := h
                  refine V_iast dX8_add_151 (hS.n 54 rfl) (hS.k 54 9 rfl) (by rw [(hS.z 54 120 rfl)]; exact hb) ?_
                  refine V_memI (fun I199 e_I199 => ?_)
                  replace h := h I199 e_I199
                  refine V_aload_n dX8_add_152 rfl rfl ?_
                  refine V_getr dX8_add_153 fl_RX8_16 (hS.n 51 rfl) (hS.k 51 8 rfl) rfl (hS.r 51 4 54 rfl) ?_
                  refine V_iload dX8_add_156 rfl ?_
                  refine V_iconst (v := 2) dX8_add_158 (by decide) ?_
                  refine V_iadd dX8_add_159 ?_
                  refine V_iload dX8_add_160 rfl ?_
                  obtain ⟨hb, h⟩ := h
                  refine V_iast dX8_add_162 (hS.n 54 rfl) (hS.k 54 9 rfl) (by rw [(hS.z 54 120 rfl)]; exact hb) ?_
                  refine V_memI (fun I200 e_I200 => ?_)
                  replace h := h I200 e_I200
                  refine V_aload_n dX8_add_163 rfl rfl ?_
                  refine V_getr dX8_add_164 fl_RX8_13 (hS.n 51 rfl) (hS.k 51 8 rfl) rfl (hS.r 51 3 53 rfl) ?_
                  refine V_iload_n dX8_add_167 rfl rfl ?_
                  refine V_dup2 dX8_add_168 rfl rfl ?_
                  obtain ⟨hb, h⟩ := h
                  refine V_iald dX8_add_169 (hS.n 53 rfl) (hS.k 53 9 rfl) (by rw [(hS.z 53 4 rfl)]; exact hb) ?_
                  refine V_iconst (v := 1) dX8_add_170 (by decide) ?_
                  refine V_iadd dX8_add_171 ?_
                  obtain ⟨hb, h⟩ := h
                  refine V_iast dX8_add_172 (hS.n 53 rfl) (hS.k 53 9 rfl) (by rw [(hS.z 53 4 rfl)]; exact hb) ?_
                  refine V_memI (fun I201 e_I201 => ?_)
                  replace h := h I201 e_I201
                  refine V_aload_n dX8_add_173 rfl rfl ?_
                  refine V_getr dX8_add_174 fl_RX8_13 (hS.n 51 rfl) (hS.k 51 8 rfl) rfl (hS.r 51 3 53 rfl) ?_
                  refine V_iload_n dX8_add_177 rfl rfl ?_
                  obtain ⟨hb, h⟩ := h
                  refine V_iald dX8_add_178 (hS.n 53 rfl) (hS.k 53 9 rfl) (by rw [(hS.z 53 4 rfl)]; exact hb) ?_
                  exact V_iret dX8_add_179 rfl (by decide) (by decide) ⟨_, rfl, rfl, rfl, h⟩
                · replace h := h.2 hc
                  refine V_iconst (v := 0) dX8_add_117 (by decide) ?_
                  exact V_iret dX8_add_118 rfl (by decide) (by decide) ⟨_, rfl, rfl, rfl, h⟩
def wX8_take_58 (a1 : Int32) (a2 : Int32) (K100 : QI → Prop) (post : Int32 → QI → Prop) : Nat → Int32 → QI → Prop
  | 0, _, _ => False
  | n + 1, x4, I => (vp_in a1 4 ∧ ((((((10 * a1) + (I 53 (a1).toNatClampNeg)) - 1) * 3) ≤ x4 → (K100 I)) ∧ (¬ ((((10 * a1) + (I 53 (a1).toNatClampNeg)) - 1) * 3) ≤ x4 → (vp_in (x4 + 3) 120 ∧ (vp_in x4 120 ∧ (∀ I5 : QI, I5 = q_u2 I 54 (x4).toNatClampNeg (I 54 ((x4 + 3)).toNatClampNeg) → (∀ v6 : Int32, v6 = (x4 + 1) → (wX8_take_58 a1 a2 K100 post n v6 I5))))))))
set_option maxRecDepth 100000 in
set_option maxHeartbeats 4000000 in
theorem swX8_take_58 {X : QX} {S : QS} {a1 : Int32} {a2 : Int32} {J : QJ} {K100 : QI → Prop} {post : Int32 → QI → Prop} (hS : Sh S) (hK100 : ∀ (I : QI), K100 I → V X mX8_take 2 0 0 (q_Pi S (fun r I2 J2 => J = J2 ∧ post r I2)) 100 [(0, .ref 51), (1, .int a1)] [] S I J 0 0) : ∀ (f : Nat) (x4 : Int32) (I : QI), wX8_take_58 a1 a2 K100 post f x4 I → V X mX8_take 2 0 0 (q_Pi S (fun r I2 J2 => J = J2 ∧ post r I2)) 58 [(0, .ref 51), (1, .int a1), (4, .int x4)] [] S I J 0 0 := by
  intro f
  induction f with
  | zero => intro x4 I h; exact h.elim
  | succ n ih =>
    intro x4 I h
    replace h : (vp_in a1 4 ∧ ((((((10 * a1) + (I 53 (a1).toNatClampNeg)) - 1) * 3) ≤ x4 → (K100 I)) ∧ (¬ ((((10 * a1) + (I 53 (a1).toNatClampNeg)) - 1) * 3) ≤ x4 → (vp_in (x4 + 3) 120 ∧ (vp_in x4 120 ∧ (∀ I5 : QI, I5 = q_u2 I 54 (x4).toNatClampNeg (I 54 ((x4 + 3)).toNatClampNeg) → (∀ v6 : Int32, v6 = (x4 + 1) → (wX8_take_58 a1 a2 K100 post n v6 I5)))))))) := h
    refine V_iload dX8_take_58 rfl ?_
    refine V_bipush (v := 10) dX8_take_60 (by decide) ?_
    refine V_iload_n dX8_take_62 rfl rfl ?_
    refine V_imul dX8_take_63 ?_
    refine V_aload_n dX8_take_64 rfl rfl ?_
    refine V_getr dX8_take_65 fl_RX8_13 (hS.n 51 rfl) (hS.k 51 8 rfl) rfl (hS.r 51 3 53 rfl) ?_
    refine V_iload_n dX8_take_68 rfl rfl ?_
    obtain ⟨hb, h⟩ := h
    refine V_iald dX8_take_69 (hS.n 53 rfl) (hS.k 53 9 rfl) (by rw [(hS.z 53 4 rfl)]; exact hb) ?_
    refine V_iadd dX8_take_70 ?_
    refine V_iconst (v := 1) dX8_take_71 (by decide) ?_
    refine V_isub dX8_take_72 ?_
    refine V_iconst (v := 3) dX8_take_73 (by decide) ?_
    refine V_imul dX8_take_74 ?_
    refine V_icmp_ge 100 dX8_take_75 rfl (fun hc => ?_) (fun hc => ?_)
    · replace h := h.1 hc
      refine V_sub (lo2 := [(0, .ref 51), (1, .int a1)]) [0, 1] rfl ?_
      exact hK100 _ h
    · replace h := h.2 hc
      refine V_aload_n dX8_take_78 rfl rfl ?_
      refine V_getr dX8_take_79 fl_RX8_16 (hS.n 51 rfl) (hS.k 51 8 rfl) rfl (hS.r 51 4 54 rfl) ?_
      refine V_iload dX8_take_82 rfl ?_
      refine V_aload_n dX8_take_84 rfl rfl ?_
      refine V_getr dX8_take_85 fl_RX8_16 (hS.n 51 rfl) (hS.k 51 8 rfl) rfl (hS.r 51 4 54 rfl) ?_
      refine V_iload dX8_take_88 rfl ?_
      refine V_iconst (v := 3) dX8_take_90 (by decide) ?_
      refine V_iadd dX8_take_91 ?_
      obtain ⟨hb, h⟩ := h
      refine V_iald dX8_take_92 (hS.n 54 rfl) (hS.k 54 9 rfl) (by rw [(hS.z 54 120 rfl)]; exact hb) ?_
      obtain ⟨hb, h⟩ := h
      refine V_iast dX8_take_93 (hS.n 54 rfl) (hS.k 54 9 rfl) (by rw [(hS.z 54 120 rfl)]; exact hb) ?_
      refine V_memI (fun I5 e_I5 => ?_)
      replace h := h I5 e_I5
      obtain ⟨v6, e_v6⟩ : ∃ z : Int32, z = (x4 + 1) := ⟨_, rfl⟩
      replace h := h v6 e_v6
      refine V_iinc (lo2 := [(4, .int v6), (0, .ref 51), (1, .int a1)]) 2 dX8_take_94 rfl (v := v6) (by rw [e_v6]; first | done | rfl) (by decide) rfl ?_
      refine V_goto 58 dX8_take_97 rfl ?_
      refine V_sub (lo2 := [(0, .ref 51), (1, .int a1), (4, .int v6)]) [1, 2, 0] rfl ?_
      exact ih _ _ h
def wX8_take (a1 : Int32) (a2 : Int32) (I : QI) (post : Int32 → QI → Prop) : Prop := (wX8_isTable a1 I (fun r1 => ((r1 = 0 → (wX8_goesWell 1 I (fun r3 I2 => ((¬ r3 = 0 → (∀ v4 : Int32, v4 = (((10 * a1) + a2) * 3) → (∃ f : Nat, wX8_take_58 a1 a2 (fun I7 => (vp_in a1 4 ∧ (vp_in a1 4 ∧ (∀ I8 : QI, I8 = q_u2 I7 53 (a1).toNatClampNeg ((I7 53 (a1).toNatClampNeg) - 1) → (vp_in a1 4 ∧ post (I8 53 (a1).toNatClampNeg) I8))))) post f v4 I2))) ∧ (r3 = 0 → post 0 I2))))) ∧ (¬ r1 = 0 → (vp_in a1 4 ∧ (wX8_in a2 0 ((I 53 (a1).toNatClampNeg) - 1) I (fun r9 => ((r9 = 0 → (wX8_goesWell 1 I (fun r11 I10 => ((¬ r11 = 0 → (∀ v12 : Int32, v12 = (((10 * a1) + a2) * 3) → (∃ f : Nat, wX8_take_58 a1 a2 (fun I13 => (vp_in a1 4 ∧ (vp_in a1 4 ∧ (∀ I14 : QI, I14 = q_u2 I13 53 (a1).toNatClampNeg ((I13 53 (a1).toNatClampNeg) - 1) → (vp_in a1 4 ∧ post (I14 53 (a1).toNatClampNeg) I14))))) post f v12 I10))) ∧ (r11 = 0 → post 0 I10))))) ∧ (¬ r9 = 0 → (wX8_goesWell 0 I (fun r16 I15 => ((¬ r16 = 0 → (∀ v17 : Int32, v17 = (((10 * a1) + a2) * 3) → (∃ f : Nat, wX8_take_58 a1 a2 (fun I18 => (vp_in a1 4 ∧ (vp_in a1 4 ∧ (∀ I19 : QI, I19 = q_u2 I18 53 (a1).toNatClampNeg ((I18 53 (a1).toNatClampNeg) - 1) → (vp_in a1 4 ∧ post (I19 53 (a1).toNatClampNeg) I19))))) post f v17 I15))) ∧ (r16 = 0 → post 0 I15)))))))))))))
set_option maxRecDepth 100000 in
set_option maxHeartbeats 4000000 in
theorem s_mX8_take {X : QX} {S : QS} {a1 : Int32} {a2 : Int32} {I : QI} {J : QJ} {post : Int32 → QI → Prop} (hS : Sh S) (h : wX8_take a1 a2 I post) : CX X mX8_take 2 0 0 [.ref 51, .int a1, .int a2] S I J (q_Pi S (fun r I2 J2 => J = J2 ∧ post r I2)) := by
  refine CX.of (lo := [(0, .ref 51), (1, .int a1), (2, .int a2)]) ok_mX8_take rfl (Nat.le_of_ble_eq_true rfl) rfl ?_
  replace h : (wX8_isTable a1 I (fun r1 => ((r1 = 0 → (wX8_goesWell 1 I (fun r3 I2 => ((¬ r3 = 0 → (∀ v4 : Int32, v4 = (((10 * a1) + a2) * 3) → (∃ f : Nat, wX8_take_58 a1 a2 (fun I7 => (vp_in a1 4 ∧ (vp_in a1 4 ∧ (∀ I8 : QI, I8 = q_u2 I7 53 (a1).toNatClampNeg ((I7 53 (a1).toNatClampNeg) - 1) → (vp_in a1 4 ∧ post (I8 53 (a1).toNatClampNeg) I8))))) post f v4 I2))) ∧ (r3 = 0 → post 0 I2))))) ∧ (¬ r1 = 0 → (vp_in a1 4 ∧ (wX8_in a2 0 ((I 53 (a1).toNatClampNeg) - 1) I (fun r9 => ((r9 = 0 → (wX8_goesWell 1 I (fun r11 I10 => ((¬ r11 = 0 → (∀ v12 : Int32, v12 = (((10 * a1) + a2) * 3) → (∃ f : Nat, wX8_take_58 a1 a2 (fun I13 => (vp_in a1 4 ∧ (vp_in a1 4 ∧ (∀ I14 : QI, I14 = q_u2 I13 53 (a1).toNatClampNeg ((I13 53 (a1).toNatClampNeg) - 1) → (vp_in a1 4 ∧ post (I14 53 (a1).toNatClampNeg) I14))))) post f v12 I10))) ∧ (r11 = 0 → post 0 I10))))) ∧ (¬ r9 = 0 → (wX8_goesWell 0 I (fun r16 I15 => ((¬ r16 = 0 → (∀ v17 : Int32, v17 = (((10 * a1) + a2) * 3) → (∃ f : Nat, wX8_take_58 a1 a2 (fun I18 => (vp_in a1 4 ∧ (vp_in a1 4 ∧ (∀ I19 : QI, I19 = q_u2 I18 53 (a1).toNatClampNeg ((I18 53 (a1).toNatClampNeg) - 1) → (vp_in a1 4 ∧ post (I19 53 (a1).toNatClampNeg) I19))))) post f v17 I15))) ∧ (r16 = 0 → post 0 I15))))))))))))) := h
  refine V_aload_n dX8_take_0 rfl rfl ?_
  refine V_iload_n dX8_take_1 rfl rfl ?_
  refine V_callVi (st := []) [.int a1] dX8_take_2 ok_mX8_isTable rfl ml_RX8_108 in_mX8_isTable se_mX8_isTable (hS.n 51 rfl) (hS.k 51 8 rfl) (by decide) rfl (Nat.le_of_ble_eq_true rfl) (by decide) (by decide) (by decide) (s_mX8_isTable hS h) (fun r1 I9 J9 h => ?_)
  obtain ⟨rfl, rfl, h⟩ := h
  refine V_if_eq 28 dX8_take_5 rfl (fun hc => ?_) (fun hc => ?_)
  · replace h := h.1 hc
    refine V_iconst (v := 0) dX8_take_28 (by decide) ?_
    refine V_istore_n (lo2 := [(3, .int 0), (0, .ref 51), (1, .int a1), (2, .int a2)]) dX8_take_29 rfl (by decide) rfl ?_
    refine V_aload_n dX8_take_30 rfl rfl ?_
    refine V_iload_n dX8_take_31 rfl rfl ?_
    refine V_if_eq 39 dX8_take_32 rfl (fun hc => ?_) (fun hc => ?_)
    · refine V_iconst (v := 1) dX8_take_39 (by decide) ?_
      refine V_callVi (st := []) [.int 1] dX8_take_40 ok_mX8_goesWell rfl ml_RX8_112 in_mX8_goesWell se_mX8_goesWell (hS.n 51 rfl) (hS.k 51 8 rfl) (by decide) rfl (Nat.le_of_ble_eq_true rfl) (by decide) (by decide) (by decide) (s_mX8_goesWell hS h) (fun r3 I2 J9 h => ?_)
      obtain ⟨rfl, h⟩ := h
      refine V_if_ne 48 dX8_take_43 rfl (fun hc => ?_) (fun hc => ?_)
      · replace h := h.1 hc
        refine V_bipush (v := 10) dX8_take_48 (by decide) ?_
        refine V_iload_n dX8_take_50 rfl rfl ?_
        refine V_imul dX8_take_51 ?_
        refine V_iload_n dX8_take_52 rfl rfl ?_
        refine V_iadd dX8_take_53 ?_
        refine V_iconst (v := 3) dX8_take_54 (by decide) ?_
        refine V_imul dX8_take_55 ?_
        refine V_topi (fun v4 e_v4 => ?_)
        replace h := h v4 e_v4
        refine V_istore (lo2 := [(4, .int v4), (3, .int 0), (0, .ref 51), (1, .int a1), (2, .int a2)]) dX8_take_56 (by decide) rfl ?_
        refine V_sub (lo2 := [(0, .ref 51), (1, .int a1), (4, .int v4)]) [2, 3, 0] rfl ?_
        obtain ⟨f9, h⟩ := h
        refine swX8_take_58 hS ?_ f9 _ _ h
        · intro I7 h
          refine V_aload_n dX8_take_100 rfl rfl ?_
          refine V_getr dX8_take_101 fl_RX8_13 (hS.n 51 rfl) (hS.k 51 8 rfl) rfl (hS.r 51 3 53 rfl) ?_
          refine V_iload_n dX8_take_104 rfl rfl ?_
          refine V_dup2 dX8_take_105 rfl rfl ?_
          obtain ⟨hb, h⟩ := h
          refine V_iald dX8_take_106 (hS.n 53 rfl) (hS.k 53 9 rfl) (by rw [(hS.z 53 4 rfl)]; exact hb) ?_
          refine V_iconst (v := 1) dX8_take_107 (by decide) ?_
          refine V_isub dX8_take_108 ?_
          obtain ⟨hb, h⟩ := h
          refine V_iast dX8_take_109 (hS.n 53 rfl) (hS.k 53 9 rfl) (by rw [(hS.z 53 4 rfl)]; exact hb) ?_
          refine V_memI (fun I8 e_I8 => ?_)
          replace h := h I8 e_I8
          refine V_aload_n dX8_take_110 rfl rfl ?_
          refine V_getr dX8_take_111 fl_RX8_13 (hS.n 51 rfl) (hS.k 51 8 rfl) rfl (hS.r 51 3 53 rfl) ?_
          refine V_iload_n dX8_take_114 rfl rfl ?_
          obtain ⟨hb, h⟩ := h
          refine V_iald dX8_take_115 (hS.n 53 rfl) (hS.k 53 9 rfl) (by rw [(hS.z 53 4 rfl)]; exact hb) ?_
          exact V_iret dX8_take_116 rfl (by decide) (by decide) ⟨_, rfl, rfl, rfl, h⟩
      · replace h := h.2 hc
        refine V_iconst (v := 0) dX8_take_46 (by decide) ?_
        exact V_iret dX8_take_47 rfl (by decide) (by decide) ⟨_, rfl, rfl, rfl, h⟩
    · first | exact absurd hc (by decide) | exact absurd (by decide) hc
  · replace h := h.2 hc
    refine V_iload_n dX8_take_8 rfl rfl ?_
    refine V_iconst (v := 0) dX8_take_9 (by decide) ?_
    refine V_aload_n dX8_take_10 rfl rfl ?_
    refine V_getr dX8_take_11 fl_RX8_13 (hS.n 51 rfl) (hS.k 51 8 rfl) rfl (hS.r 51 3 53 rfl) ?_
    refine V_iload_n dX8_take_14 rfl rfl ?_
    obtain ⟨hb, h⟩ := h
    refine V_iald dX8_take_15 (hS.n 53 rfl) (hS.k 53 9 rfl) (by rw [(hS.z 53 4 rfl)]; exact hb) ?_
    refine V_iconst (v := 1) dX8_take_16 (by decide) ?_
    refine V_isub dX8_take_17 ?_
    refine V_callSi (st := []) [.int a2, .int 0, .int ((I 53 (a1).toNatClampNeg) - 1)] dX8_take_18 ok_mX8_in rfl ml_RX8_104 st_mX8_in (Nat.le_of_ble_eq_true rfl) (by decide) (by decide) (by decide) (s_mX8_in hS h) (fun r9 I9 J9 h => ?_)
    obtain ⟨rfl, rfl, h⟩ := h
    refine V_if_eq 28 dX8_take_21 rfl (fun hc => ?_) (fun hc => ?_)
    · replace h := h.1 hc
      refine V_iconst (v := 0) dX8_take_28 (by decide) ?_
      refine V_istore_n (lo2 := [(3, .int 0), (0, .ref 51), (1, .int a1), (2, .int a2)]) dX8_take_29 rfl (by decide) rfl ?_
      refine V_aload_n dX8_take_30 rfl rfl ?_
      refine V_iload_n dX8_take_31 rfl rfl ?_
      refine V_if_eq 39 dX8_take_32 rfl (fun hc => ?_) (fun hc => ?_)
      · refine V_iconst (v := 1) dX8_take_39 (by decide) ?_
        refine V_callVi (st := []) [.int 1] dX8_take_40 ok_mX8_goesWell rfl ml_RX8_112 in_mX8_goesWell se_mX8_goesWell (hS.n 51 rfl) (hS.k 51 8 rfl) (by decide) rfl (Nat.le_of_ble_eq_true rfl) (by decide) (by decide) (by decide) (s_mX8_goesWell hS h) (fun r11 I10 J9 h => ?_)
        obtain ⟨rfl, h⟩ := h
        refine V_if_ne 48 dX8_take_43 rfl (fun hc => ?_) (fun hc => ?_)
        · replace h := h.1 hc
          refine V_bipush (v := 10) dX8_take_48 (by decide) ?_
          refine V_iload_n dX8_take_50 rfl rfl ?_
          refine V_imul dX8_take_51 ?_
          refine V_iload_n dX8_take_52 rfl rfl ?_
          refine V_iadd dX8_take_53 ?_
          refine V_iconst (v := 3) dX8_take_54 (by decide) ?_
          refine V_imul dX8_take_55 ?_
          refine V_topi (fun v12 e_v12 => ?_)
          replace h := h v12 e_v12
          refine V_istore (lo2 := [(4, .int v12), (3, .int 0), (0, .ref 51), (1, .int a1), (2, .int a2)]) dX8_take_56 (by decide) rfl ?_
          refine V_sub (lo2 := [(0, .ref 51), (1, .int a1), (4, .int v12)]) [2, 3, 0] rfl ?_
          obtain ⟨f9, h⟩ := h
          refine swX8_take_58 hS ?_ f9 _ _ h
          · intro I13 h
            refine V_aload_n dX8_take_100 rfl rfl ?_
            refine V_getr dX8_take_101 fl_RX8_13 (hS.n 51 rfl) (hS.k 51 8 rfl) rfl (hS.r 51 3 53 rfl) ?_
            refine V_iload_n dX8_take_104 rfl rfl ?_
            refine V_dup2 dX8_take_105 rfl rfl ?_
            obtain ⟨hb, h⟩ := h
            refine V_iald dX8_take_106 (hS.n 53 rfl) (hS.k 53 9 rfl) (by rw [(hS.z 53 4 rfl)]; exact hb) ?_
            refine V_iconst (v := 1) dX8_take_107 (by decide) ?_
            refine V_isub dX8_take_108 ?_
            obtain ⟨hb, h⟩ := h
            refine V_iast dX8_take_109 (hS.n 53 rfl) (hS.k 53 9 rfl) (by rw [(hS.z 53 4 rfl)]; exact hb) ?_
            refine V_memI (fun I14 e_I14 => ?_)
            replace h := h I14 e_I14
            refine V_aload_n dX8_take_110 rfl rfl ?_
            refine V_getr dX8_take_111 fl_RX8_13 (hS.n 51 rfl) (hS.k 51 8 rfl) rfl (hS.r 51 3 53 rfl) ?_
            refine V_iload_n dX8_take_114 rfl rfl ?_
            obtain ⟨hb, h⟩ := h
            refine V_iald dX8_take_115 (hS.n 53 rfl) (hS.k 53 9 rfl) (by rw [(hS.z 53 4 rfl)]; exact hb) ?_
            exact V_iret dX8_take_116 rfl (by decide) (by decide) ⟨_, rfl, rfl, rfl, h⟩
        · replace h := h.2 hc
          refine V_iconst (v := 0) dX8_take_46 (by decide) ?_
          exact V_iret dX8_take_47 rfl (by decide) (by decide) ⟨_, rfl, rfl, rfl, h⟩
      · first | exact absurd hc (by decide) | exact absurd (by decide) hc
    · replace h := h.2 hc
      refine V_iconst (v := 1) dX8_take_24 (by decide) ?_
      refine V_goto 29 dX8_take_25 rfl ?_
      refine V_istore_n (lo2 := [(3, .int 1), (0, .ref 51), (1, .int a1), (2, .int a2)]) dX8_take_29 rfl (by decide) rfl ?_
      refine V_aload_n dX8_take_30 rfl rfl ?_
      refine V_iload_n dX8_take_31 rfl rfl ?_
      refine V_if_eq 39 dX8_take_32 rfl (fun hc => ?_) (fun hc => ?_)
      · first | exact absurd hc (by decide) | exact absurd (by decide) hc
      · refine V_iconst (v := 0) dX8_take_35 (by decide) ?_
        refine V_goto 40 dX8_take_36 rfl ?_
        refine V_callVi (st := []) [.int 0] dX8_take_40 ok_mX8_goesWell rfl ml_RX8_112 in_mX8_goesWell se_mX8_goesWell (hS.n 51 rfl) (hS.k 51 8 rfl) (by decide) rfl (Nat.le_of_ble_eq_true rfl) (by decide) (by decide) (by decide) (s_mX8_goesWell hS h) (fun r16 I15 J9 h => ?_)
        obtain ⟨rfl, h⟩ := h
        refine V_if_ne 48 dX8_take_43 rfl (fun hc => ?_) (fun hc => ?_)
        · replace h := h.1 hc
          refine V_bipush (v := 10) dX8_take_48 (by decide) ?_
          refine V_iload_n dX8_take_50 rfl rfl ?_
          refine V_imul dX8_take_51 ?_
          refine V_iload_n dX8_take_52 rfl rfl ?_
          refine V_iadd dX8_take_53 ?_
          refine V_iconst (v := 3) dX8_take_54 (by decide) ?_
          refine V_imul dX8_take_55 ?_
          refine V_topi (fun v17 e_v17 => ?_)
          replace h := h v17 e_v17
          refine V_istore (lo2 := [(4, .int v17), (3, .int 1), (0, .ref 51), (1, .int a1), (2, .int a2)]) dX8_take_56 (by decide) rfl ?_
          refine V_sub (lo2 := [(0, .ref 51), (1, .int a1), (4, .int v17)]) [2, 3, 0] rfl ?_
          obtain ⟨f9, h⟩ := h
          refine swX8_take_58 hS ?_ f9 _ _ h
          · intro I18 h
            refine V_aload_n dX8_take_100 rfl rfl ?_
            refine V_getr dX8_take_101 fl_RX8_13 (hS.n 51 rfl) (hS.k 51 8 rfl) rfl (hS.r 51 3 53 rfl) ?_
            refine V_iload_n dX8_take_104 rfl rfl ?_
            refine V_dup2 dX8_take_105 rfl rfl ?_
            obtain ⟨hb, h⟩ := h
            refine V_iald dX8_take_106 (hS.n 53 rfl) (hS.k 53 9 rfl) (by rw [(hS.z 53 4 rfl)]; exact hb) ?_
            refine V_iconst (v := 1) dX8_take_107 (by decide) ?_
            refine V_isub dX8_take_108 ?_
            obtain ⟨hb, h⟩ := h
            refine V_iast dX8_take_109 (hS.n 53 rfl) (hS.k 53 9 rfl) (by rw [(hS.z 53 4 rfl)]; exact hb) ?_
            refine V_memI (fun I19 e_I19 => ?_)
            replace h := h I19 e_I19
            refine V_aload_n dX8_take_110 rfl rfl ?_
            refine V_getr dX8_take_111 fl_RX8_13 (hS.n 51 rfl) (hS.k 51 8 rfl) rfl (hS.r 51 3 53 rfl) ?_
            refine V_iload_n dX8_take_114 rfl rfl ?_
            obtain ⟨hb, h⟩ := h
            refine V_iald dX8_take_115 (hS.n 53 rfl) (hS.k 53 9 rfl) (by rw [(hS.z 53 4 rfl)]; exact hb) ?_
            exact V_iret dX8_take_116 rfl (by decide) (by decide) ⟨_, rfl, rfl, rfl, h⟩
        · replace h := h.2 hc
          refine V_iconst (v := 0) dX8_take_46 (by decide) ?_
          exact V_iret dX8_take_47 rfl (by decide) (by decide) ⟨_, rfl, rfl, rfl, h⟩
