def wX8_split (a1 : Int32) (I : QI) (post : Int32 → QI → Prop) : Prop := (wX8_plan I (fun I1 => (wX8_isSet a1 I1 (fun r2 => ((r2 = 0 → (wX8_goesWell 1 I1 (fun r4 I3 => ((r4 = 0 → post 0 I3) ∧ (¬ r4 = 0 → (vp_in a1 16 ∧ post (I3 77 (a1).toNatClampNeg) I3)))))) ∧ (¬ r2 = 0 → (wX8_goesWell 0 I1 (fun r6 I5 => ((r6 = 0 → post 0 I5) ∧ (¬ r6 = 0 → (vp_in a1 16 ∧ post (I5 77 (a1).toNatClampNeg) I5)))))))))))
set_option maxRecDepth 100000 in
set_option maxHeartbeats 4000000 in
theorem s_mX8_split {X : QX} {S : QS} {a1 : Int32} {I : QI} {J : QJ} {post : Int32 → QI → Prop} (hS : Sh S) (h : wX8_split a1 I post) : CX X mX8_split 4 0 0 [.ref 51, .int a1] S I J (q_Pi S (fun r I2 J2 => J = J2 ∧ post r I2)) := by
  refine CX.of (lo := [(0, .ref 51), (1, .int a1)]) ok_mX8_split rfl (Nat.le_of_ble_eq_true rfl) rfl ?_
  replace h : (wX8_plan I (fun I1 => (wX8_isSet a1 I1 (fun r2 => ((r2 = 0 → (wX8_goesWell 1 I1 (fun r4 I3 => ((r4 = 0 → post 0 I3) ∧ (¬ r4 = 0 → (vp_in a1 16 ∧ post (I3 77 (a1).toNatClampNeg) I3)))))) ∧ (¬ r2 = 0 → (wX8_goesWell 0 I1 (fun r6 I5 => ((r6 = 0 → post 0 I5) ∧ (¬ r6 = 0 → (vp_in a1 16 ∧ post (I5 77 (a1).toNatClampNeg) I5))))))))))) := h
  refine V_aload_n dX8_split_0 rfl rfl ?_
  refine V_callVv (st := []) [] dX8_split_1 ok_mX8_plan rfl ml_RX8_263 in_mX8_plan se_mX8_plan (hS.n 51 rfl) (hS.k 51 8 rfl) (by decide) rfl (Nat.le_of_ble_eq_true rfl) (by decide) (by decide) (by decide) (s_mX8_plan hS h) (fun I1 J9 h => ?_)
  obtain ⟨rfl, h⟩ := h
  refine V_aload_n dX8_split_4 rfl rfl ?_
  refine V_aload_n dX8_split_5 rfl rfl ?_
  refine V_iload_n dX8_split_6 rfl rfl ?_
  refine V_callVi (st := [.ref 51]) [.int a1] dX8_split_7 ok_mX8_isSet rfl ml_RX8_256 in_mX8_isSet se_mX8_isSet (hS.n 51 rfl) (hS.k 51 8 rfl) (by decide) rfl (Nat.le_of_ble_eq_true rfl) (by decide) (by decide) (by decide) (s_mX8_isSet hS h) (fun r2 I9 J9 h => ?_)
  obtain ⟨rfl, rfl, h⟩ := h
  refine V_if_eq 17 dX8_split_10 rfl (fun hc => ?_) (fun hc => ?_)
  · replace h := h.1 hc
    refine V_iconst (v := 1) dX8_split_17 (by decide) ?_
    refine V_callVi (st := []) [.int 1] dX8_split_18 ok_mX8_goesWell rfl ml_RX8_112 in_mX8_goesWell se_mX8_goesWell (hS.n 51 rfl) (hS.k 51 8 rfl) (by decide) rfl (Nat.le_of_ble_eq_true rfl) (by decide) (by decide) (by decide) (s_mX8_goesWell hS h) (fun r4 I3 J9 h => ?_)
    obtain ⟨rfl, h⟩ := h
    refine V_if_eq 33 dX8_split_21 rfl (fun hc => ?_) (fun hc => ?_)
    · replace h := h.1 hc
      refine V_iconst (v := 0) dX8_split_33 (by decide) ?_
      exact V_iret dX8_split_34 rfl (by decide) (by decide) ⟨_, rfl, rfl, rfl, h⟩
    · replace h := h.2 hc
      refine V_aload_n dX8_split_24 rfl rfl ?_
      refine V_getr dX8_split_25 fl_RX8_92 (hS.n 51 rfl) (hS.k 51 8 rfl) rfl (hS.r 51 34 77 rfl) ?_
      refine V_iload_n dX8_split_28 rfl rfl ?_
      obtain ⟨hb, h⟩ := h
      refine V_iald dX8_split_29 (hS.n 77 rfl) (hS.k 77 9 rfl) (by rw [(hS.z 77 16 rfl)]; exact hb) ?_
      refine V_goto 34 dX8_split_30 rfl ?_
      exact V_iret dX8_split_34 rfl (by decide) (by decide) ⟨_, rfl, rfl, rfl, h⟩
  · replace h := h.2 hc
    refine V_iconst (v := 0) dX8_split_13 (by decide) ?_
    refine V_goto 18 dX8_split_14 rfl ?_
    refine V_callVi (st := []) [.int 0] dX8_split_18 ok_mX8_goesWell rfl ml_RX8_112 in_mX8_goesWell se_mX8_goesWell (hS.n 51 rfl) (hS.k 51 8 rfl) (by decide) rfl (Nat.le_of_ble_eq_true rfl) (by decide) (by decide) (by decide) (s_mX8_goesWell hS h) (fun r6 I5 J9 h => ?_)
    obtain ⟨rfl, h⟩ := h
    refine V_if_eq 33 dX8_split_21 rfl (fun hc => ?_) (fun hc => ?_)
    · replace h := h.1 hc
      refine V_iconst (v := 0) dX8_split_33 (by decide) ?_
      exact V_iret dX8_split_34 rfl (by decide) (by decide) ⟨_, rfl, rfl, rfl, h⟩
    · replace h := h.2 hc
      refine V_aload_n dX8_split_24 rfl rfl ?_
      refine V_getr dX8_split_25 fl_RX8_92 (hS.n 51 rfl) (hS.k 51 8 rfl) rfl (hS.r 51 34 77 rfl) ?_
      refine V_iload_n dX8_split_28 rfl rfl ?_
      obtain ⟨hb, h⟩ := h
      refine V_iald dX8_split_29 (hS.n 77 rfl) (hS.k 77 9 rfl) (by rw [(hS.z 77 16 rfl)]; exact hb) ?_
      refine V_goto 34 dX8_split_30 rfl ?_
      exact V_iret dX8_split_34 rfl (by decide) (by decide) ⟨_, rfl, rfl, rfl, h⟩
def wX8_view (a1 : Int32) (a2 : Int32) (a3 : Int32) (a4 : Int32) (I : QI) (post : Int32 → QI → Prop) : Prop := (wX8_isColumn a1 a3 I (fun r1 => ((r1 = 0 → (wX8_goesWell 1 I (fun r3 I2 => ((¬ r3 = 0 → (vp_in (4 * (I2 51 16)) 16 ∧ (∀ I4 : QI, I4 = q_u2 I2 63 ((4 * (I2 51 16))).toNatClampNeg a1 → (vp_in ((4 * (I4 51 16)) + 1) 16 ∧ (∀ I5 : QI, I5 = q_u2 I4 63 (((4 * (I4 51 16)) + 1)).toNatClampNeg a3 → (vp_in ((4 * (I5 51 16)) + 2) 16 ∧ (∀ I6 : QI, I6 = q_u2 I5 63 (((4 * (I5 51 16)) + 2)).toNatClampNeg a2 → (vp_in ((4 * (I6 51 16)) + 3) 16 ∧ (∀ I7 : QI, I7 = q_u2 I6 63 (((4 * (I6 51 16)) + 3)).toNatClampNeg a4 → (∀ I8 : QI, I8 = q_u2 I7 51 16 ((I7 51 16) + 1) → post ((I8 51 16) - 1) I8)))))))))) ∧ (r3 = 0 → post 0 I2))))) ∧ (¬ r1 = 0 → (wX8_isColumn a2 a4 I (fun r9 => ((r9 = 0 → (wX8_goesWell 1 I (fun r11 I10 => ((¬ r11 = 0 → (vp_in (4 * (I10 51 16)) 16 ∧ (∀ I12 : QI, I12 = q_u2 I10 63 ((4 * (I10 51 16))).toNatClampNeg a1 → (vp_in ((4 * (I12 51 16)) + 1) 16 ∧ (∀ I13 : QI, I13 = q_u2 I12 63 (((4 * (I12 51 16)) + 1)).toNatClampNeg a3 → (vp_in ((4 * (I13 51 16)) + 2) 16 ∧ (∀ I14 : QI, I14 = q_u2 I13 63 (((4 * (I13 51 16)) + 2)).toNatClampNeg a2 → (vp_in ((4 * (I14 51 16)) + 3) 16 ∧ (∀ I15 : QI, I15 = q_u2 I14 63 (((4 * (I14 51 16)) + 3)).toNatClampNeg a4 → (∀ I16 : QI, I16 = q_u2 I15 51 16 ((I15 51 16) + 1) → post ((I16 51 16) - 1) I16)))))))))) ∧ (r11 = 0 → post 0 I10))))) ∧ (¬ r9 = 0 → ((¬ a1 = a2 → ((¬ (I 51 16) = 4 → (wX8_goesWell 0 I (fun r18 I17 => ((¬ r18 = 0 → (vp_in (4 * (I17 51 16)) 16 ∧ (∀ I19 : QI, I19 = q_u2 I17 63 ((4 * (I17 51 16))).toNatClampNeg a1 → (vp_in ((4 * (I19 51 16)) + 1) 16 ∧ (∀ I20 : QI, I20 = q_u2 I19 63 (((4 * (I19 51 16)) + 1)).toNatClampNeg a3 → (vp_in ((4 * (I20 51 16)) + 2) 16 ∧ (∀ I21 : QI, I21 = q_u2 I20 63 (((4 * (I20 51 16)) + 2)).toNatClampNeg a2 → (vp_in ((4 * (I21 51 16)) + 3) 16 ∧ (∀ I22 : QI, I22 = q_u2 I21 63 (((4 * (I21 51 16)) + 3)).toNatClampNeg a4 → (∀ I23 : QI, I23 = q_u2 I22 51 16 ((I22 51 16) + 1) → post ((I23 51 16) - 1) I23)))))))))) ∧ (r18 = 0 → post 0 I17))))) ∧ ((I 51 16) = 4 → (wX8_goesWell 3 I (fun r25 I24 => ((¬ r25 = 0 → (vp_in (4 * (I24 51 16)) 16 ∧ (∀ I26 : QI, I26 = q_u2 I24 63 ((4 * (I24 51 16))).toNatClampNeg a1 → (vp_in ((4 * (I26 51 16)) + 1) 16 ∧ (∀ I27 : QI, I27 = q_u2 I26 63 (((4 * (I26 51 16)) + 1)).toNatClampNeg a3 → (vp_in ((4 * (I27 51 16)) + 2) 16 ∧ (∀ I28 : QI, I28 = q_u2 I27 63 (((4 * (I27 51 16)) + 2)).toNatClampNeg a2 → (vp_in ((4 * (I28 51 16)) + 3) 16 ∧ (∀ I29 : QI, I29 = q_u2 I28 63 (((4 * (I28 51 16)) + 3)).toNatClampNeg a4 → (∀ I30 : QI, I30 = q_u2 I29 51 16 ((I29 51 16) + 1) → post ((I30 51 16) - 1) I30)))))))))) ∧ (r25 = 0 → post 0 I24))))))) ∧ (a1 = a2 → (wX8_goesWell 2 I (fun r32 I31 => ((¬ r32 = 0 → (vp_in (4 * (I31 51 16)) 16 ∧ (∀ I33 : QI, I33 = q_u2 I31 63 ((4 * (I31 51 16))).toNatClampNeg a1 → (vp_in ((4 * (I33 51 16)) + 1) 16 ∧ (∀ I34 : QI, I34 = q_u2 I33 63 (((4 * (I33 51 16)) + 1)).toNatClampNeg a3 → (vp_in ((4 * (I34 51 16)) + 2) 16 ∧ (∀ I35 : QI, I35 = q_u2 I34 63 (((4 * (I34 51 16)) + 2)).toNatClampNeg a2 → (vp_in ((4 * (I35 51 16)) + 3) 16 ∧ (∀ I36 : QI, I36 = q_u2 I35 63 (((4 * (I35 51 16)) + 3)).toNatClampNeg a4 → (∀ I37 : QI, I37 = q_u2 I36 51 16 ((I36 51 16) + 1) → post ((I37 51 16) - 1) I37)))))))))) ∧ (r32 = 0 → post 0 I31))))))))))))))
set_option maxRecDepth 100000 in
set_option maxHeartbeats 4000000 in
theorem s_mX8_view {X : QX} {S : QS} {a1 : Int32} {a2 : Int32} {a3 : Int32} {a4 : Int32} {I : QI} {J : QJ} {post : Int32 → QI → Prop} (hS : Sh S) (h : wX8_view a1 a2 a3 a4 I post) : CX X mX8_view 3 0 0 [.ref 51, .int a1, .int a2, .int a3, .int a4] S I J (q_Pi S (fun r I2 J2 => J = J2 ∧ post r I2)) := by
  refine CX.of (lo := [(0, .ref 51), (1, .int a1), (2, .int a2), (3, .int a3), (4, .int a4)]) ok_mX8_view rfl (Nat.le_of_ble_eq_true rfl) rfl ?_
  replace h : (wX8_isColumn a1 a3 I (fun r1 => ((r1 = 0 → (wX8_goesWell 1 I (fun r3 I2 => ((¬ r3 = 0 → (vp_in (4 * (I2 51 16)) 16 ∧ (∀ I4 : QI, I4 = q_u2 I2 63 ((4 * (I2 51 16))).toNatClampNeg a1 → (vp_in ((4 * (I4 51 16)) + 1) 16 ∧ (∀ I5 : QI, I5 = q_u2 I4 63 (((4 * (I4 51 16)) + 1)).toNatClampNeg a3 → (vp_in ((4 * (I5 51 16)) + 2) 16 ∧ (∀ I6 : QI, I6 = q_u2 I5 63 (((4 * (I5 51 16)) + 2)).toNatClampNeg a2 → (vp_in ((4 * (I6 51 16)) + 3) 16 ∧ (∀ I7 : QI, I7 = q_u2 I6 63 (((4 * (I6 51 16)) + 3)).toNatClampNeg a4 → (∀ I8 : QI, I8 = q_u2 I7 51 16 ((I7 51 16) + 1) → post ((I8 51 16) - 1) I8)))))))))) ∧ (r3 = 0 → post 0 I2))))) ∧ (¬ r1 = 0 → (wX8_isColumn a2 a4 I (fun r9 => ((r9 = 0 → (wX8_goesWell 1 I (fun r11 I10 => ((¬ r11 = 0 → (vp_in (4 * (I10 51 16)) 16 ∧ (∀ I12 : QI, I12 = q_u2 I10 63 ((4 * (I10 51 16))).toNatClampNeg a1 → (vp_in ((4 * (I12 51 16)) + 1) 16 ∧ (∀ I13 : QI, I13 = q_u2 I12 63 (((4 * (I12 51 16)) + 1)).toNatClampNeg a3 → (vp_in ((4 * (I13 51 16)) + 2) 16 ∧ (∀ I14 : QI, I14 = q_u2 I13 63 (((4 * (I13 51 16)) + 2)).toNatClampNeg a2 → (vp_in ((4 * (I14 51 16)) + 3) 16 ∧ (∀ I15 : QI, I15 = q_u2 I14 63 (((4 * (I14 51 16)) + 3)).toNatClampNeg a4 → (∀ I16 : QI, I16 = q_u2 I15 51 16 ((I15 51 16) + 1) → post ((I16 51 16) - 1) I16)))))))))) ∧ (r11 = 0 → post 0 I10))))) ∧ (¬ r9 = 0 → ((¬ a1 = a2 → ((¬ (I 51 16) = 4 → (wX8_goesWell 0 I (fun r18 I17 => ((¬ r18 = 0 → (vp_in (4 * (I17 51 16)) 16 ∧ (∀ I19 : QI, I19 = q_u2 I17 63 ((4 * (I17 51 16))).toNatClampNeg a1 → (vp_in ((4 * (I19 51 16)) + 1) 16 ∧ (∀ I20 : QI, I20 = q_u2 I19 63 (((4 * (I19 51 16)) + 1)).toNatClampNeg a3 → (vp_in ((4 * (I20 51 16)) + 2) 16 ∧ (∀ I21 : QI, I21 = q_u2 I20 63 (((4 * (I20 51 16)) + 2)).toNatClampNeg a2 → (vp_in ((4 * (I21 51 16)) + 3) 16 ∧ (∀ I22 : QI, I22 = q_u2 I21 63 (((4 * (I21 51 16)) + 3)).toNatClampNeg a4 → (∀ I23 : QI, I23 = q_u2 I22 51 16 ((I22 51 16) + 1) → post ((I23 51 16) - 1) I23)))))))))) ∧ (r18 = 0 → post 0 I17))))) ∧ ((I 51 16) = 4 → (wX8_goesWell 3 I (fun r25 I24 => ((¬ r25 = 0 → (vp_in (4 * (I24 51 16)) 16 ∧ (∀ I26 : QI, I26 = q_u2 I24 63 ((4 * (I24 51 16))).toNatClampNeg a1 → (vp_in ((4 * (I26 51 16)) + 1) 16 ∧ (∀ I27 : QI, I27 = q_u2 I26 63 (((4 * (I26 51 16)) + 1)).toNatClampNeg a3 → (vp_in ((4 * (I27 51 16)) + 2) 16 ∧ (∀ I28 : QI, I28 = q_u2 I27 63 (((4 * (I27 51 16)) + 2)).toNatClampNeg a2 → (vp_in ((4 * (I28 51 16)) + 3) 16 ∧ (∀ I29 : QI, I29 = q_u2 I28 63 (((4 * (I28 51 16)) + 3)).toNatClampNeg a4 → (∀ I30 : QI, I30 = q_u2 I29 51 16 ((I29 51 16) + 1) → post ((I30 51 16) - 1) I30)))))))))) ∧ (r25 = 0 → post 0 I24))))))) ∧ (a1 = a2 → (wX8_goesWell 2 I (fun r32 I31 => ((¬ r32 = 0 → (vp_in (4 * (I31 51 16)) 16 ∧ (∀ I33 : QI, I33 = q_u2 I31 63 ((4 * (I31 51 16))).toNatClampNeg a1 → (vp_in ((4 * (I33 51 16)) + 1) 16 ∧ (∀ I34 : QI, I34 = q_u2 I33 63 (((4 * (I33 51 16)) + 1)).toNatClampNeg a3 → (vp_in ((4 * (I34 51 16)) + 2) 16 ∧ (∀ I35 : QI, I35 = q_u2 I34 63 (((4 * (I34 51 16)) + 2)).toNatClampNeg a2 → (vp_in ((4 * (I35 51 16)) + 3) 16 ∧ (∀ I36 : QI, I36 = q_u2 I35 63 (((4 * (I35 51 16)) + 3)).toNatClampNeg a4 → (∀ I37 : QI, I37 = q_u2 I36 51 16 ((I36 51 16) + 1) → post ((I37 51 16) - 1) I37)))))))))) ∧ (r32 = 0 → post 0 I31)))))))))))))) := h
  refine V_aload_n dX8_view_0 rfl rfl ?_
  refine V_iload_n dX8_view_1 rfl rfl ?_
  refine V_iload_n dX8_view_2 rfl rfl ?_
  refine V_callVi (st := []) [.int a1, .int a3] dX8_view_3 ok_mX8_isColumn rfl ml_RX8_247 in_mX8_isColumn se_mX8_isColumn (hS.n 51 rfl) (hS.k 51 8 rfl) (by decide) rfl (Nat.le_of_ble_eq_true rfl) (by decide) (by decide) (by decide) (s_mX8_isColumn hS h) (fun r1 I9 J9 h => ?_)
  obtain ⟨rfl, rfl, h⟩ := h
  refine V_if_eq 23 dX8_view_6 rfl (fun hc => ?_) (fun hc => ?_)
  · replace h := h.1 hc
    refine V_iconst (v := 0) dX8_view_23 (by decide) ?_
    refine V_istore (lo2 := [(5, .int 0), (0, .ref 51), (1, .int a1), (2, .int a2), (3, .int a3), (4, .int a4)]) dX8_view_24 (by decide) rfl ?_
    refine V_aload_n dX8_view_26 rfl rfl ?_
    refine V_iload dX8_view_27 rfl ?_
    refine V_if_ne 36 dX8_view_29 rfl (fun hc => ?_) (fun hc => ?_)
    · first | exact absurd hc (by decide) | exact absurd (by decide) hc
    · refine V_iconst (v := 1) dX8_view_32 (by decide) ?_
      refine V_goto 58 dX8_view_33 rfl ?_
      refine V_callVi (st := []) [.int 1] dX8_view_58 ok_mX8_goesWell rfl ml_RX8_112 in_mX8_goesWell se_mX8_goesWell (hS.n 51 rfl) (hS.k 51 8 rfl) (by decide) rfl (Nat.le_of_ble_eq_true rfl) (by decide) (by decide) (by decide) (s_mX8_goesWell hS h) (fun r3 I2 J9 h => ?_)
      obtain ⟨rfl, h⟩ := h
      refine V_if_ne 66 dX8_view_61 rfl (fun hc => ?_) (fun hc => ?_)
      · replace h := h.1 hc
        refine V_aload_n dX8_view_66 rfl rfl ?_
        refine V_getr dX8_view_67 fl_RX8_48 (hS.n 51 rfl) (hS.k 51 8 rfl) rfl (hS.r 51 17 63 rfl) ?_
        refine V_iconst (v := 4) dX8_view_70 (by decide) ?_
        refine V_aload_n dX8_view_71 rfl rfl ?_
        refine V_geti dX8_view_72 fl_RX8_266 (hS.n 51 rfl) (hS.k 51 8 rfl) rfl ?_
        refine V_imul dX8_view_75 ?_
        refine V_iload_n dX8_view_76 rfl rfl ?_
        obtain ⟨hb, h⟩ := h
        refine V_iast dX8_view_77 (hS.n 63 rfl) (hS.k 63 9 rfl) (by rw [(hS.z 63 16 rfl)]; exact hb) ?_
        refine V_memI (fun I4 e_I4 => ?_)
        replace h := h I4 e_I4
        refine V_aload_n dX8_view_78 rfl rfl ?_
        refine V_getr dX8_view_79 fl_RX8_48 (hS.n 51 rfl) (hS.k 51 8 rfl) rfl (hS.r 51 17 63 rfl) ?_
        refine V_iconst (v := 4) dX8_view_82 (by decide) ?_
        refine V_aload_n dX8_view_83 rfl rfl ?_
        refine V_geti dX8_view_84 fl_RX8_266 (hS.n 51 rfl) (hS.k 51 8 rfl) rfl ?_
        refine V_imul dX8_view_87 ?_
        refine V_iconst (v := 1) dX8_view_88 (by decide) ?_
        refine V_iadd dX8_view_89 ?_
        refine V_iload_n dX8_view_90 rfl rfl ?_
        obtain ⟨hb, h⟩ := h
        refine V_iast dX8_view_91 (hS.n 63 rfl) (hS.k 63 9 rfl) (by rw [(hS.z 63 16 rfl)]; exact hb) ?_
        refine V_memI (fun I5 e_I5 => ?_)
        replace h := h I5 e_I5
        refine V_aload_n dX8_view_92 rfl rfl ?_
        refine V_getr dX8_view_93 fl_RX8_48 (hS.n 51 rfl) (hS.k 51 8 rfl) rfl (hS.r 51 17 63 rfl) ?_
        refine V_iconst (v := 4) dX8_view_96 (by decide) ?_
        refine V_aload_n dX8_view_97 rfl rfl ?_
        refine V_geti dX8_view_98 fl_RX8_266 (hS.n 51 rfl) (hS.k 51 8 rfl) rfl ?_
        refine V_imul dX8_view_101 ?_
        refine V_iconst (v := 2) dX8_view_102 (by decide) ?_
        refine V_iadd dX8_view_103 ?_
        refine V_iload_n dX8_view_104 rfl rfl ?_
        obtain ⟨hb, h⟩ := h
        refine V_iast dX8_view_105 (hS.n 63 rfl) (hS.k 63 9 rfl) (by rw [(hS.z 63 16 rfl)]; exact hb) ?_
        refine V_memI (fun I6 e_I6 => ?_)
        replace h := h I6 e_I6
        refine V_aload_n dX8_view_106 rfl rfl ?_
        refine V_getr dX8_view_107 fl_RX8_48 (hS.n 51 rfl) (hS.k 51 8 rfl) rfl (hS.r 51 17 63 rfl) ?_
        refine V_iconst (v := 4) dX8_view_110 (by decide) ?_
        refine V_aload_n dX8_view_111 rfl rfl ?_
        refine V_geti dX8_view_112 fl_RX8_266 (hS.n 51 rfl) (hS.k 51 8 rfl) rfl ?_
        refine V_imul dX8_view_115 ?_
        refine V_iconst (v := 3) dX8_view_116 (by decide) ?_
        refine V_iadd dX8_view_117 ?_
        refine V_iload dX8_view_118 rfl ?_
        obtain ⟨hb, h⟩ := h
        refine V_iast dX8_view_120 (hS.n 63 rfl) (hS.k 63 9 rfl) (by rw [(hS.z 63 16 rfl)]; exact hb) ?_
        refine V_memI (fun I7 e_I7 => ?_)
        replace h := h I7 e_I7
        refine V_aload_n dX8_view_121 rfl rfl ?_
        refine V_dup dX8_view_122 rfl ?_
        refine V_geti dX8_view_123 fl_RX8_266 (hS.n 51 rfl) (hS.k 51 8 rfl) rfl ?_
        refine V_iconst (v := 1) dX8_view_126 (by decide) ?_
        refine V_iadd dX8_view_127 ?_
        refine V_puti dX8_view_128 fl_RX8_266 rfl (hS.n 51 rfl) (hS.k 51 8 rfl) rfl rfl rfl ?_
        refine V_memI (fun I8 e_I8 => ?_)
        replace h := h I8 e_I8
        refine V_aload_n dX8_view_131 rfl rfl ?_
        refine V_geti dX8_view_132 fl_RX8_266 (hS.n 51 rfl) (hS.k 51 8 rfl) rfl ?_
        refine V_iconst (v := 1) dX8_view_135 (by decide) ?_
        refine V_isub dX8_view_136 ?_
        exact V_iret dX8_view_137 rfl (by decide) (by decide) ⟨_, rfl, rfl, rfl, h⟩
      · replace h := h.2 hc
        refine V_iconst (v := 0) dX8_view_64 (by decide) ?_
        exact V_iret dX8_view_65 rfl (by decide) (by decide) ⟨_, rfl, rfl, rfl, h⟩
  · replace h := h.2 hc
    refine V_aload_n dX8_view_9 rfl rfl ?_
    refine V_iload_n dX8_view_10 rfl rfl ?_
    refine V_iload dX8_view_11 rfl ?_
    refine V_callVi (st := []) [.int a2, .int a4] dX8_view_13 ok_mX8_isColumn rfl ml_RX8_247 in_mX8_isColumn se_mX8_isColumn (hS.n 51 rfl) (hS.k 51 8 rfl) (by decide) rfl (Nat.le_of_ble_eq_true rfl) (by decide) (by decide) (by decide) (s_mX8_isColumn hS h) (fun r9 I9 J9 h => ?_)
    obtain ⟨rfl, rfl, h⟩ := h
    refine V_if_eq 23 dX8_view_16 rfl (fun hc => ?_) (fun hc => ?_)
    · replace h := h.1 hc
      refine V_iconst (v := 0) dX8_view_23 (by decide) ?_
      refine V_istore (lo2 := [(5, .int 0), (0, .ref 51), (1, .int a1), (2, .int a2), (3, .int a3), (4, .int a4)]) dX8_view_24 (by decide) rfl ?_
      refine V_aload_n dX8_view_26 rfl rfl ?_
      refine V_iload dX8_view_27 rfl ?_
      refine V_if_ne 36 dX8_view_29 rfl (fun hc => ?_) (fun hc => ?_)
      · first | exact absurd hc (by decide) | exact absurd (by decide) hc
      · refine V_iconst (v := 1) dX8_view_32 (by decide) ?_
        refine V_goto 58 dX8_view_33 rfl ?_
        refine V_callVi (st := []) [.int 1] dX8_view_58 ok_mX8_goesWell rfl ml_RX8_112 in_mX8_goesWell se_mX8_goesWell (hS.n 51 rfl) (hS.k 51 8 rfl) (by decide) rfl (Nat.le_of_ble_eq_true rfl) (by decide) (by decide) (by decide) (s_mX8_goesWell hS h) (fun r11 I10 J9 h => ?_)
        obtain ⟨rfl, h⟩ := h
        refine V_if_ne 66 dX8_view_61 rfl (fun hc => ?_) (fun hc => ?_)
        · replace h := h.1 hc
          refine V_aload_n dX8_view_66 rfl rfl ?_
          refine V_getr dX8_view_67 fl_RX8_48 (hS.n 51 rfl) (hS.k 51 8 rfl) rfl (hS.r 51 17 63 rfl) ?_
          refine V_iconst (v := 4) dX8_view_70 (by decide) ?_
          refine V_aload_n dX8_view_71 rfl rfl ?_
          refine V_geti dX8_view_72 fl_RX8_266 (hS.n 51 rfl) (hS.k 51 8 rfl) rfl ?_
          refine V_imul dX8_view_75 ?_
          refine V_iload_n dX8_view_76 rfl rfl ?_
          obtain ⟨hb, h⟩ := h
          refine V_iast dX8_view_77 (hS.n 63 rfl) (hS.k 63 9 rfl) (by rw [(hS.z 63 16 rfl)]; exact hb) ?_
          refine V_memI (fun I12 e_I12 => ?_)
          replace h := h I12 e_I12
          refine V_aload_n dX8_view_78 rfl rfl ?_
          refine V_getr dX8_view_79 fl_RX8_48 (hS.n 51 rfl) (hS.k 51 8 rfl) rfl (hS.r 51 17 63 rfl) ?_
          refine V_iconst (v := 4) dX8_view_82 (by decide) ?_
          refine V_aload_n dX8_view_83 rfl rfl ?_
          refine V_geti dX8_view_84 fl_RX8_266 (hS.n 51 rfl) (hS.k 51 8 rfl) rfl ?_
          refine V_imul dX8_view_87 ?_
          refine V_iconst (v := 1) dX8_view_88 (by decide) ?_
          refine V_iadd dX8_view_89 ?_
          refine V_iload_n dX8_view_90 rfl rfl ?_
          obtain ⟨hb, h⟩ := h
          refine V_iast dX8_view_91 (hS.n 63 rfl) (hS.k 63 9 rfl) (by rw [(hS.z 63 16 rfl)]; exact hb) ?_
          refine V_memI (fun I13 e_I13 => ?_)
          replace h := h I13 e_I13
          refine V_aload_n dX8_view_92 rfl rfl ?_
          refine V_getr dX8_view_93 fl_RX8_48 (hS.n 51 rfl) (hS.k 51 8 rfl) rfl (hS.r 51 17 63 rfl) ?_
          refine V_iconst (v := 4) dX8_view_96 (by decide) ?_
          refine V_aload_n dX8_view_97 rfl rfl ?_
          refine V_geti dX8_view_98 fl_RX8_266 (hS.n 51 rfl) (hS.k 51 8 rfl) rfl ?_
          refine V_imul dX8_view_101 ?_
          refine V_iconst (v := 2) dX8_view_102 (by decide) ?_
          refine V_iadd dX8_view_103 ?_
          refine V_iload_n dX8_view_104 rfl rfl ?_
          obtain ⟨hb, h⟩ := h
          refine V_iast dX8_view_105 (hS.n 63 rfl) (hS.k 63 9 rfl) (by rw [(hS.z 63 16 rfl)]; exact hb) ?_
          refine V_memI (fun I14 e_I14 => ?_)
          replace h := h I14 e_I14
          refine V_aload_n dX8_view_106 rfl rfl ?_
          refine V_getr dX8_view_107 fl_RX8_48 (hS.n 51 rfl) (hS.k 51 8 rfl) rfl (hS.r 51 17 63 rfl) ?_
          refine V_iconst (v := 4) dX8_view_110 (by decide) ?_
          refine V_aload_n dX8_view_111 rfl rfl ?_
          refine V_geti dX8_view_112 fl_RX8_266 (hS.n 51 rfl) (hS.k 51 8 rfl) rfl ?_
          refine V_imul dX8_view_115 ?_
          refine V_iconst (v := 3) dX8_view_116 (by decide) ?_
          refine V_iadd dX8_view_117 ?_
          refine V_iload dX8_view_118 rfl ?_
          obtain ⟨hb, h⟩ := h
          refine V_iast dX8_view_120 (hS.n 63 rfl) (hS.k 63 9 rfl) (by rw [(hS.z 63 16 rfl)]; exact hb) ?_
          refine V_memI (fun I15 e_I15 => ?_)
          replace h := h I15 e_I15
          refine V_aload_n dX8_view_121 rfl rfl ?_
          refine V_dup dX8_view_122 rfl ?_
          refine V_geti dX8_view_123 fl_RX8_266 (hS.n 51 rfl) (hS.k 51 8 rfl) rfl ?_
          refine V_iconst (v := 1) dX8_view_126 (by decide) ?_
          refine V_iadd dX8_view_127 ?_
          refine V_puti dX8_view_128 fl_RX8_266 rfl (hS.n 51 rfl) (hS.k 51 8 rfl) rfl rfl rfl ?_
          refine V_memI (fun I16 e_I16 => ?_)
          replace h := h I16 e_I16
          refine V_aload_n dX8_view_131 rfl rfl ?_
          refine V_geti dX8_view_132 fl_RX8_266 (hS.n 51 rfl) (hS.k 51 8 rfl) rfl ?_
          refine V_iconst (v := 1) dX8_view_135 (by decide) ?_
          refine V_isub dX8_view_136 ?_
          exact V_iret dX8_view_137 rfl (by decide) (by decide) ⟨_, rfl, rfl, rfl, h⟩
        · replace h := h.2 hc
          refine V_iconst (v := 0) dX8_view_64 (by decide) ?_
          exact V_iret dX8_view_65 rfl (by decide) (by decide) ⟨_, rfl, rfl, rfl, h⟩
    · replace h := h.2 hc
      refine V_iconst (v := 1) dX8_view_19 (by decide) ?_
      refine V_goto 24 dX8_view_20 rfl ?_
      refine V_istore (lo2 := [(5, .int 1), (0, .ref 51), (1, .int a1), (2, .int a2), (3, .int a3), (4, .int a4)]) dX8_view_24 (by decide) rfl ?_
      refine V_aload_n dX8_view_26 rfl rfl ?_
      refine V_iload dX8_view_27 rfl ?_
      refine V_if_ne 36 dX8_view_29 rfl (fun hc => ?_) (fun hc => ?_)
      · refine V_iload_n dX8_view_36 rfl rfl ?_
        refine V_iload_n dX8_view_37 rfl rfl ?_
        refine V_icmp_ne 45 dX8_view_38 rfl (fun hc => ?_) (fun hc => ?_)
        · replace h := h.1 hc
          refine V_aload_n dX8_view_45 rfl rfl ?_
          refine V_geti dX8_view_46 fl_RX8_266 (hS.n 51 rfl) (hS.k 51 8 rfl) rfl ?_
          refine V_iconst (v := 4) dX8_view_49 (by decide) ?_
          refine V_icmp_ne 57 dX8_view_50 rfl (fun hc => ?_) (fun hc => ?_)
          · replace h := h.1 hc
            refine V_iconst (v := 0) dX8_view_57 (by decide) ?_
            refine V_callVi (st := []) [.int 0] dX8_view_58 ok_mX8_goesWell rfl ml_RX8_112 in_mX8_goesWell se_mX8_goesWell (hS.n 51 rfl) (hS.k 51 8 rfl) (by decide) rfl (Nat.le_of_ble_eq_true rfl) (by decide) (by decide) (by decide) (s_mX8_goesWell hS h) (fun r18 I17 J9 h => ?_)
            obtain ⟨rfl, h⟩ := h
            refine V_if_ne 66 dX8_view_61 rfl (fun hc => ?_) (fun hc => ?_)
            · replace h := h.1 hc
              refine V_aload_n dX8_view_66 rfl rfl ?_
              refine V_getr dX8_view_67 fl_RX8_48 (hS.n 51 rfl) (hS.k 51 8 rfl) rfl (hS.r 51 17 63 rfl) ?_
              refine V_iconst (v := 4) dX8_view_70 (by decide) ?_
              refine V_aload_n dX8_view_71 rfl rfl ?_
              refine V_geti dX8_view_72 fl_RX8_266 (hS.n 51 rfl) (hS.k 51 8 rfl) rfl ?_
              refine V_imul dX8_view_75 ?_
              refine V_iload_n dX8_view_76 rfl rfl ?_
              obtain ⟨hb, h⟩ := h
              refine V_iast dX8_view_77 (hS.n 63 rfl) (hS.k 63 9 rfl) (by rw [(hS.z 63 16 rfl)]; exact hb) ?_
              refine V_memI (fun I19 e_I19 => ?_)
              replace h := h I19 e_I19
              refine V_aload_n dX8_view_78 rfl rfl ?_
              refine V_getr dX8_view_79 fl_RX8_48 (hS.n 51 rfl) (hS.k 51 8 rfl) rfl (hS.r 51 17 63 rfl) ?_
              refine V_iconst (v := 4) dX8_view_82 (by decide) ?_
              refine V_aload_n dX8_view_83 rfl rfl ?_
              refine V_geti dX8_view_84 fl_RX8_266 (hS.n 51 rfl) (hS.k 51 8 rfl) rfl ?_
              refine V_imul dX8_view_87 ?_
              refine V_iconst (v := 1) dX8_view_88 (by decide) ?_
              refine V_iadd dX8_view_89 ?_
              refine V_iload_n dX8_view_90 rfl rfl ?_
              obtain ⟨hb, h⟩ := h
              refine V_iast dX8_view_91 (hS.n 63 rfl) (hS.k 63 9 rfl) (by rw [(hS.z 63 16 rfl)]; exact hb) ?_
              refine V_memI (fun I20 e_I20 => ?_)
              replace h := h I20 e_I20
              refine V_aload_n dX8_view_92 rfl rfl ?_
              refine V_getr dX8_view_93 fl_RX8_48 (hS.n 51 rfl) (hS.k 51 8 rfl) rfl (hS.r 51 17 63 rfl) ?_
              refine V_iconst (v := 4) dX8_view_96 (by decide) ?_
              refine V_aload_n dX8_view_97 rfl rfl ?_
              refine V_geti dX8_view_98 fl_RX8_266 (hS.n 51 rfl) (hS.k 51 8 rfl) rfl ?_
              refine V_imul dX8_view_101 ?_
              refine V_iconst (v := 2) dX8_view_102 (by decide) ?_
              refine V_iadd dX8_view_103 ?_
              refine V_iload_n dX8_view_104 rfl rfl ?_
              obtain ⟨hb, h⟩ := h
              refine V_iast dX8_view_105 (hS.n 63 rfl) (hS.k 63 9 rfl) (by rw [(hS.z 63 16 rfl)]; exact hb) ?_
              refine V_memI (fun I21 e_I21 => ?_)
              replace h := h I21 e_I21
              refine V_aload_n dX8_view_106 rfl rfl ?_
              refine V_getr dX8_view_107 fl_RX8_48 (hS.n 51 rfl) (hS.k 51 8 rfl) rfl (hS.r 51 17 63 rfl) ?_
              refine V_iconst (v := 4) dX8_view_110 (by decide) ?_
              refine V_aload_n dX8_view_111 rfl rfl ?_
              refine V_geti dX8_view_112 fl_RX8_266 (hS.n 51 rfl) (hS.k 51 8 rfl) rfl ?_
              refine V_imul dX8_view_115 ?_
              refine V_iconst (v := 3) dX8_view_116 (by decide) ?_
              refine V_iadd dX8_view_117 ?_
              refine V_iload dX8_view_118 rfl ?_
              obtain ⟨hb, h⟩ := h
              refine V_iast dX8_view_120 (hS.n 63 rfl) (hS.k 63 9 rfl) (by rw [(hS.z 63 16 rfl)]; exact hb) ?_
              refine V_memI (fun I22 e_I22 => ?_)
              replace h := h I22 e_I22
              refine V_aload_n dX8_view_121 rfl rfl ?_
              refine V_dup dX8_view_122 rfl ?_
              refine V_geti dX8_view_123 fl_RX8_266 (hS.n 51 rfl) (hS.k 51 8 rfl) rfl ?_
              refine V_iconst (v := 1) dX8_view_126 (by decide) ?_
              refine V_iadd dX8_view_127 ?_
              refine V_puti dX8_view_128 fl_RX8_266 rfl (hS.n 51 rfl) (hS.k 51 8 rfl) rfl rfl rfl ?_
              refine V_memI (fun I23 e_I23 => ?_)
              replace h := h I23 e_I23
              refine V_aload_n dX8_view_131 rfl rfl ?_
              refine V_geti dX8_view_132 fl_RX8_266 (hS.n 51 rfl) (hS.k 51 8 rfl) rfl ?_
              refine V_iconst (v := 1) dX8_view_135 (by decide) ?_
              refine V_isub dX8_view_136 ?_
              exact V_iret dX8_view_137 rfl (by decide) (by decide) ⟨_, rfl, rfl, rfl, h⟩
            · replace h := h.2 hc
              refine V_iconst (v := 0) dX8_view_64 (by decide) ?_
              exact V_iret dX8_view_65 rfl (by decide) (by decide) ⟨_, rfl, rfl, rfl, h⟩
          · replace h := h.2 hc
            refine V_iconst (v := 3) dX8_view_53 (by decide) ?_
            refine V_goto 58 dX8_view_54 rfl ?_
            refine V_callVi (st := []) [.int 3] dX8_view_58 ok_mX8_goesWell rfl ml_RX8_112 in_mX8_goesWell se_mX8_goesWell (hS.n 51 rfl) (hS.k 51 8 rfl) (by decide) rfl (Nat.le_of_ble_eq_true rfl) (by decide) (by decide) (by decide) (s_mX8_goesWell hS h) (fun r25 I24 J9 h => ?_)
            obtain ⟨rfl, h⟩ := h
            refine V_if_ne 66 dX8_view_61 rfl (fun hc => ?_) (fun hc => ?_)
            · replace h := h.1 hc
              refine V_aload_n dX8_view_66 rfl rfl ?_
              refine V_getr dX8_view_67 fl_RX8_48 (hS.n 51 rfl) (hS.k 51 8 rfl) rfl (hS.r 51 17 63 rfl) ?_
              refine V_iconst (v := 4) dX8_view_70 (by decide) ?_
              refine V_aload_n dX8_view_71 rfl rfl ?_
              refine V_geti dX8_view_72 fl_RX8_266 (hS.n 51 rfl) (hS.k 51 8 rfl) rfl ?_
              refine V_imul dX8_view_75 ?_
              refine V_iload_n dX8_view_76 rfl rfl ?_
              obtain ⟨hb, h⟩ := h
              refine V_iast dX8_view_77 (hS.n 63 rfl) (hS.k 63 9 rfl) (by rw [(hS.z 63 16 rfl)]; exact hb) ?_
              refine V_memI (fun I26 e_I26 => ?_)
              replace h := h I26 e_I26
              refine V_aload_n dX8_view_78 rfl rfl ?_
              refine V_getr dX8_view_79 fl_RX8_48 (hS.n 51 rfl) (hS.k 51 8 rfl) rfl (hS.r 51 17 63 rfl) ?_
              refine V_iconst (v := 4) dX8_view_82 (by decide) ?_
              refine V_aload_n dX8_view_83 rfl rfl ?_
              refine V_geti dX8_view_84 fl_RX8_266 (hS.n 51 rfl) (hS.k 51 8 rfl) rfl ?_
              refine V_imul dX8_view_87 ?_
              refine V_iconst (v := 1) dX8_view_88 (by decide) ?_
              refine V_iadd dX8_view_89 ?_
              refine V_iload_n dX8_view_90 rfl rfl ?_
              obtain ⟨hb, h⟩ := h
              refine V_iast dX8_view_91 (hS.n 63 rfl) (hS.k 63 9 rfl) (by rw [(hS.z 63 16 rfl)]; exact hb) ?_
              refine V_memI (fun I27 e_I27 => ?_)
              replace h := h I27 e_I27
              refine V_aload_n dX8_view_92 rfl rfl ?_
              refine V_getr dX8_view_93 fl_RX8_48 (hS.n 51 rfl) (hS.k 51 8 rfl) rfl (hS.r 51 17 63 rfl) ?_
              refine V_iconst (v := 4) dX8_view_96 (by decide) ?_
              refine V_aload_n dX8_view_97 rfl rfl ?_
              refine V_geti dX8_view_98 fl_RX8_266 (hS.n 51 rfl) (hS.k 51 8 rfl) rfl ?_
              refine V_imul dX8_view_101 ?_
              refine V_iconst (v := 2) dX8_view_102 (by decide) ?_
              refine V_iadd dX8_view_103 ?_
              refine V_iload_n dX8_view_104 rfl rfl ?_
              obtain ⟨hb, h⟩ := h
              refine V_iast dX8_view_105 (hS.n 63 rfl) (hS.k 63 9 rfl) (by rw [(hS.z 63 16 rfl)]; exact hb) ?_
              refine V_memI (fun I28 e_I28 => ?_)
              replace h := h I28 e_I28
              refine V_aload_n dX8_view_106 rfl rfl ?_
              refine V_getr dX8_view_107 fl_RX8_48 (hS.n 51 rfl) (hS.k 51 8 rfl) rfl (hS.r 51 17 63 rfl) ?_
              refine V_iconst (v := 4) dX8_view_110 (by decide) ?_
              refine V_aload_n dX8_view_111 rfl rfl ?_
              refine V_geti dX8_view_112 fl_RX8_266 (hS.n 51 rfl) (hS.k 51 8 rfl) rfl ?_
              refine V_imul dX8_view_115 ?_
              refine V_iconst (v := 3) dX8_view_116 (by decide) ?_
              refine V_iadd dX8_view_117 ?_
              refine V_iload dX8_view_118 rfl ?_
              obtain ⟨hb, h⟩ := h
              refine V_iast dX8_view_120 (hS.n 63 rfl) (hS.k 63 9 rfl) (by rw [(hS.z 63 16 rfl)]; exact hb) ?_
              refine V_memI (fun I29 e_I29 => ?_)
              replace h := h I29 e_I29
              refine V_aload_n dX8_view_121 rfl rfl ?_
              refine V_dup dX8_view_122 rfl ?_
              refine V_geti dX8_view_123 fl_RX8_266 (hS.n 51 rfl) (hS.k 51 8 rfl) rfl ?_
              refine V_iconst (v := 1) dX8_view_126 (by decide) ?_
              refine V_iadd dX8_view_127 ?_
              refine V_puti dX8_view_128 fl_RX8_266 rfl (hS.n 51 rfl) (hS.k 51 8 rfl) rfl rfl rfl ?_
              refine V_memI (fun I30 e_I30 => ?_)
              replace h := h I30 e_I30
              refine V_aload_n dX8_view_131 rfl rfl ?_
              refine V_geti dX8_view_132 fl_RX8_266 (hS.n 51 rfl) (hS.k 51 8 rfl) rfl ?_
              refine V_iconst (v := 1) dX8_view_135 (by decide) ?_
              refine V_isub dX8_view_136 ?_
              exact V_iret dX8_view_137 rfl (by decide) (by decide) ⟨_, rfl, rfl, rfl, h⟩
            · replace h := h.2 hc
              refine V_iconst (v := 0) dX8_view_64 (by decide) ?_
              exact V_iret dX8_view_65 rfl (by decide) (by decide) ⟨_, rfl, rfl, rfl, h⟩
        · replace h := h.2 hc
          refine V_iconst (v := 2) dX8_view_41 (by decide) ?_
          refine V_goto 58 dX8_view_42 rfl ?_
          refine V_callVi (st := []) [.int 2] dX8_view_58 ok_mX8_goesWell rfl ml_RX8_112 in_mX8_goesWell se_mX8_goesWell (hS.n 51 rfl) (hS.k 51 8 rfl) (by decide) rfl (Nat.le_of_ble_eq_true rfl) (by decide) (by decide) (by decide) (s_mX8_goesWell hS h) (fun r32 I31 J9 h => ?_)
          obtain ⟨rfl, h⟩ := h
          refine V_if_ne 66 dX8_view_61 rfl (fun hc => ?_) (fun hc => ?_)
          · replace h := h.1 hc
            refine V_aload_n dX8_view_66 rfl rfl ?_
            refine V_getr dX8_view_67 fl_RX8_48 (hS.n 51 rfl) (hS.k 51 8 rfl) rfl (hS.r 51 17 63 rfl) ?_
            refine V_iconst (v := 4) dX8_view_70 (by decide) ?_
            refine V_aload_n dX8_view_71 rfl rfl ?_
            refine V_geti dX8_view_72 fl_RX8_266 (hS.n 51 rfl) (hS.k 51 8 rfl) rfl ?_
            refine V_imul dX8_view_75 ?_
            refine V_iload_n dX8_view_76 rfl rfl ?_
            obtain ⟨hb, h⟩ := h
            refine V_iast dX8_view_77 (hS.n 63 rfl) (hS.k 63 9 rfl) (by rw [(hS.z 63 16 rfl)]; exact hb) ?_
            refine V_memI (fun I33 e_I33 => ?_)
            replace h := h I33 e_I33
            refine V_aload_n dX8_view_78 rfl rfl ?_
            refine V_getr dX8_view_79 fl_RX8_48 (hS.n 51 rfl) (hS.k 51 8 rfl) rfl (hS.r 51 17 63 rfl) ?_
            refine V_iconst (v := 4) dX8_view_82 (by decide) ?_
            refine V_aload_n dX8_view_83 rfl rfl ?_
            refine V_geti dX8_view_84 fl_RX8_266 (hS.n 51 rfl) (hS.k 51 8 rfl) rfl ?_
            refine V_imul dX8_view_87 ?_
            refine V_iconst (v := 1) dX8_view_88 (by decide) ?_
            refine V_iadd dX8_view_89 ?_
            refine V_iload_n dX8_view_90 rfl rfl ?_
            obtain ⟨hb, h⟩ := h
            refine V_iast dX8_view_91 (hS.n 63 rfl) (hS.k 63 9 rfl) (by rw [(hS.z 63 16 rfl)]; exact hb) ?_
            refine V_memI (fun I34 e_I34 => ?_)
            replace h := h I34 e_I34
            refine V_aload_n dX8_view_92 rfl rfl ?_
            refine V_getr dX8_view_93 fl_RX8_48 (hS.n 51 rfl) (hS.k 51 8 rfl) rfl (hS.r 51 17 63 rfl) ?_
            refine V_iconst (v := 4) dX8_view_96 (by decide) ?_
            refine V_aload_n dX8_view_97 rfl rfl ?_
            refine V_geti dX8_view_98 fl_RX8_266 (hS.n 51 rfl) (hS.k 51 8 rfl) rfl ?_
            refine V_imul dX8_view_101 ?_
            refine V_iconst (v := 2) dX8_view_102 (by decide) ?_
            refine V_iadd dX8_view_103 ?_
            refine V_iload_n dX8_view_104 rfl rfl ?_
            obtain ⟨hb, h⟩ := h
            refine V_iast dX8_view_105 (hS.n 63 rfl) (hS.k 63 9 rfl) (by rw [(hS.z 63 16 rfl)]; exact hb) ?_
            refine V_memI (fun I35 e_I35 => ?_)
            replace h := h I35 e_I35
            refine V_aload_n dX8_view_106 rfl rfl ?_
            refine V_getr dX8_view_107 fl_RX8_48 (hS.n 51 rfl) (hS.k 51 8 rfl) rfl (hS.r 51 17 63 rfl) ?_
            refine V_iconst (v := 4) dX8_view_110 (by decide) ?_
            refine V_aload_n dX8_view_111 rfl rfl ?_
            refine V_geti dX8_view_112 fl_RX8_266 (hS.n 51 rfl) (hS.k 51 8 rfl) rfl ?_
            refine V_imul dX8_view_115 ?_
            refine V_iconst (v := 3) dX8_view_116 (by decide) ?_
            refine V_iadd dX8_view_117 ?_
            refine V_iload dX8_view_118 rfl ?_
            obtain ⟨hb, h⟩ := h
            refine V_iast dX8_view_120 (hS.n 63 rfl) (hS.k 63 9 rfl) (by rw [(hS.z 63 16 rfl)]; exact hb) ?_
            refine V_memI (fun I36 e_I36 => ?_)
            replace h := h I36 e_I36
            refine V_aload_n dX8_view_121 rfl rfl ?_
            refine V_dup dX8_view_122 rfl ?_
            refine V_geti dX8_view_123 fl_RX8_266 (hS.n 51 rfl) (hS.k 51 8 rfl) rfl ?_
            refine V_iconst (v := 1) dX8_view_126 (by decide) ?_
            refine V_iadd dX8_view_127 ?_
            refine V_puti dX8_view_128 fl_RX8_266 rfl (hS.n 51 rfl) (hS.k 51 8 rfl) rfl rfl rfl ?_
            refine V_memI (fun I37 e_I37 => ?_)
            replace h := h I37 e_I37
            refine V_aload_n dX8_view_131 rfl rfl ?_
            refine V_geti dX8_view_132 fl_RX8_266 (hS.n 51 rfl) (hS.k 51 8 rfl) rfl ?_
            refine V_iconst (v := 1) dX8_view_135 (by decide) ?_
            refine V_isub dX8_view_136 ?_
            exact V_iret dX8_view_137 rfl (by decide) (by decide) ⟨_, rfl, rfl, rfl, h⟩
          · replace h := h.2 hc
            refine V_iconst (v := 0) dX8_view_64 (by decide) ?_
            exact V_iret dX8_view_65 rfl (by decide) (by decide) ⟨_, rfl, rfl, rfl, h⟩
      · first | exact absurd hc (by decide) | exact absurd (by decide) hc
def wX8_isRowSame_6 (a1 : Int32) (a2 : Int32) (a3 : Int32) (I : QI) (post : Int32 → Prop) : Nat → Int32 → Int32 → Prop
  | 0, _, _ => False
  | n + 1, x4, x5 => (vp_in a1 4 ∧ (((I 52 (a1).toNatClampNeg) ≤ x5 → ((x4 = 0 ∨ x4 = 1) ∧ post x4)) ∧ (¬ (I 52 (a1).toNatClampNeg) ≤ x5 → ((x4 = 0 → (∀ v1 : Int32, v1 = (x5 + 1) → (wX8_isRowSame_6 a1 a2 a3 I post n 0 v1))) ∧ (¬ x4 = 0 → (wX8_at a1 a2 x5 I (fun r2 => (wX8_at a1 a3 x5 I (fun r3 => ((¬ r2 = r3 → (∀ v4 : Int32, v4 = (x5 + 1) → (wX8_isRowSame_6 a1 a2 a3 I post n 0 v4))) ∧ (r2 = r3 → (∀ v5 : Int32, v5 = (x5 + 1) → (wX8_isRowSame_6 a1 a2 a3 I post n 1 v5)))))))))))))
set_option maxRecDepth 100000 in
set_option maxHeartbeats 4000000 in
theorem swX8_isRowSame_6 {X : QX} {S : QS} {a1 : Int32} {a2 : Int32} {a3 : Int32} {I : QI} {J : QJ} {post : Int32 → Prop} (hS : Sh S) : ∀ (f : Nat) (x4 : Int32) (x5 : Int32), wX8_isRowSame_6 a1 a2 a3 I post f x4 x5 → V X mX8_isRowSame 1 0 0 (q_Pi S (fun r I2 J2 => I = I2 ∧ J = J2 ∧ post r)) 6 [(0, .ref 51), (1, .int a1), (2, .int a2), (3, .int a3), (4, .int x4), (5, .int x5)] [] S I J 0 0 := by
  intro f
  induction f with
  | zero => intro x4 x5 h; exact h.elim
  | succ n ih =>
    intro x4 x5 h
    replace h : (vp_in a1 4 ∧ (((I 52 (a1).toNatClampNeg) ≤ x5 → ((x4 = 0 ∨ x4 = 1) ∧ post x4)) ∧ (¬ (I 52 (a1).toNatClampNeg) ≤ x5 → ((x4 = 0 → (∀ v1 : Int32, v1 = (x5 + 1) → (wX8_isRowSame_6 a1 a2 a3 I post n 0 v1))) ∧ (¬ x4 = 0 → (wX8_at a1 a2 x5 I (fun r2 => (wX8_at a1 a3 x5 I (fun r3 => ((¬ r2 = r3 → (∀ v4 : Int32, v4 = (x5 + 1) → (wX8_isRowSame_6 a1 a2 a3 I post n 0 v4))) ∧ (r2 = r3 → (∀ v5 : Int32, v5 = (x5 + 1) → (wX8_isRowSame_6 a1 a2 a3 I post n 1 v5))))))))))))) := h
    refine V_iload dX8_isRowSame_6 rfl ?_
    refine V_aload_n dX8_isRowSame_8 rfl rfl ?_
    refine V_getr dX8_isRowSame_9 fl_RX8_9 (hS.n 51 rfl) (hS.k 51 8 rfl) rfl (hS.r 51 2 52 rfl) ?_
    refine V_iload_n dX8_isRowSame_12 rfl rfl ?_
    obtain ⟨hb, h⟩ := h
    refine V_iald dX8_isRowSame_13 (hS.n 52 rfl) (hS.k 52 9 rfl) (by rw [(hS.z 52 4 rfl)]; exact hb) ?_
    refine V_icmp_ge 54 dX8_isRowSame_14 rfl (fun hc => ?_) (fun hc => ?_)
    · replace h := h.1 hc
      refine V_iload dX8_isRowSame_54 rfl ?_
      obtain ⟨hz, h⟩ := h
      exact V_zret dX8_isRowSame_56 rfl (q_nz hz) (by decide) (by decide) ⟨_, rfl, rfl, rfl, rfl, h⟩
    · replace h := h.2 hc
      refine V_iload dX8_isRowSame_17 rfl ?_
      refine V_if_eq 45 dX8_isRowSame_19 rfl (fun hc => ?_) (fun hc => ?_)
      · replace h := h.1 hc
        refine V_iconst (v := 0) dX8_isRowSame_45 (by decide) ?_
        refine V_istore (lo2 := [(4, .int 0), (0, .ref 51), (1, .int a1), (2, .int a2), (3, .int a3), (5, .int x5)]) dX8_isRowSame_46 (by decide) rfl ?_
        obtain ⟨v1, e_v1⟩ : ∃ z : Int32, z = (x5 + 1) := ⟨_, rfl⟩
        replace h := h v1 e_v1
        refine V_iinc (lo2 := [(5, .int v1), (4, .int 0), (0, .ref 51), (1, .int a1), (2, .int a2), (3, .int a3)]) 5 dX8_isRowSame_48 rfl (v := v1) (by rw [e_v1]; first | done | rfl) (by decide) rfl ?_
        refine V_goto 6 dX8_isRowSame_51 rfl ?_
        refine V_sub (lo2 := [(0, .ref 51), (1, .int a1), (2, .int a2), (3, .int a3), (4, .int 0), (5, .int v1)]) [2, 3, 4, 5, 1, 0] rfl ?_
        exact ih _ _ h
      · replace h := h.2 hc
        refine V_aload_n dX8_isRowSame_22 rfl rfl ?_
        refine V_iload_n dX8_isRowSame_23 rfl rfl ?_
        refine V_iload_n dX8_isRowSame_24 rfl rfl ?_
        refine V_iload dX8_isRowSame_25 rfl ?_
        refine V_callVi (st := []) [.int a1, .int a2, .int x5] dX8_isRowSame_27 ok_mX8_at rfl ml_RX8_152 in_mX8_at se_mX8_at (hS.n 51 rfl) (hS.k 51 8 rfl) (by decide) rfl (Nat.le_of_ble_eq_true rfl) (by decide) (by decide) (by decide) (s_mX8_at hS h) (fun r2 I9 J9 h => ?_)
        obtain ⟨rfl, rfl, h⟩ := h
        refine V_aload_n dX8_isRowSame_30 rfl rfl ?_
        refine V_iload_n dX8_isRowSame_31 rfl rfl ?_
        refine V_iload_n dX8_isRowSame_32 rfl rfl ?_
        refine V_iload dX8_isRowSame_33 rfl ?_
        refine V_callVi (st := [.int r2]) [.int a1, .int a3, .int x5] dX8_isRowSame_35 ok_mX8_at rfl ml_RX8_152 in_mX8_at se_mX8_at (hS.n 51 rfl) (hS.k 51 8 rfl) (by decide) rfl (Nat.le_of_ble_eq_true rfl) (by decide) (by decide) (by decide) (s_mX8_at hS h) (fun r3 I9 J9 h => ?_)
        obtain ⟨rfl, rfl, h⟩ := h
        refine V_icmp_ne 45 dX8_isRowSame_38 rfl (fun hc => ?_) (fun hc => ?_)
        · replace h := h.1 hc
          refine V_iconst (v := 0) dX8_isRowSame_45 (by decide) ?_
          refine V_istore (lo2 := [(4, .int 0), (0, .ref 51), (1, .int a1), (2, .int a2), (3, .int a3), (5, .int x5)]) dX8_isRowSame_46 (by decide) rfl ?_
          obtain ⟨v4, e_v4⟩ : ∃ z : Int32, z = (x5 + 1) := ⟨_, rfl⟩
          replace h := h v4 e_v4
          refine V_iinc (lo2 := [(5, .int v4), (4, .int 0), (0, .ref 51), (1, .int a1), (2, .int a2), (3, .int a3)]) 5 dX8_isRowSame_48 rfl (v := v4) (by rw [e_v4]; first | done | rfl) (by decide) rfl ?_
          refine V_goto 6 dX8_isRowSame_51 rfl ?_
          refine V_sub (lo2 := [(0, .ref 51), (1, .int a1), (2, .int a2), (3, .int a3), (4, .int 0), (5, .int v4)]) [2, 3, 4, 5, 1, 0] rfl ?_
          exact ih _ _ h
        · replace h := h.2 hc
          refine V_iconst (v := 1) dX8_isRowSame_41 (by decide) ?_
          refine V_goto 46 dX8_isRowSame_42 rfl ?_
          refine V_istore (lo2 := [(4, .int 1), (0, .ref 51), (1, .int a1), (2, .int a2), (3, .int a3), (5, .int x5)]) dX8_isRowSame_46 (by decide) rfl ?_
          obtain ⟨v5, e_v5⟩ : ∃ z : Int32, z = (x5 + 1) := ⟨_, rfl⟩
          replace h := h v5 e_v5
          refine V_iinc (lo2 := [(5, .int v5), (4, .int 1), (0, .ref 51), (1, .int a1), (2, .int a2), (3, .int a3)]) 5 dX8_isRowSame_48 rfl (v := v5) (by rw [e_v5]; first | done | rfl) (by decide) rfl ?_
          refine V_goto 6 dX8_isRowSame_51 rfl ?_
          refine V_sub (lo2 := [(0, .ref 51), (1, .int a1), (2, .int a2), (3, .int a3), (4, .int 1), (5, .int v5)]) [2, 3, 4, 5, 1, 0] rfl ?_
          exact ih _ _ h
def wX8_isRowSame (a1 : Int32) (a2 : Int32) (a3 : Int32) (I : QI) (post : Int32 → Prop) : Prop := (∃ f : Nat, wX8_isRowSame_6 a1 a2 a3 I post f 1 0)
set_option maxRecDepth 100000 in
set_option maxHeartbeats 4000000 in
theorem s_mX8_isRowSame {X : QX} {S : QS} {a1 : Int32} {a2 : Int32} {a3 : Int32} {I : QI} {J : QJ} {post : Int32 → Prop} (hS : Sh S) (h : wX8_isRowSame a1 a2 a3 I post) : CX X mX8_isRowSame 1 0 0 [.ref 51, .int a1, .int a2, .int a3] S I J (q_Pi S (fun r I2 J2 => I = I2 ∧ J = J2 ∧ post r)) := by
  refine CX.of (lo := [(0, .ref 51), (1, .int a1), (2, .int a2), (3, .int a3)]) ok_mX8_isRowSame rfl (Nat.le_of_ble_eq_true rfl) rfl ?_
  replace h : (∃ f : Nat, wX8_isRowSame_6 a1 a2 a3 I post f 1 0) := h
  refine V_iconst (v := 1) dX8_isRowSame_0 (by decide) ?_
  refine V_istore (lo2 := [(4, .int 1), (0, .ref 51), (1, .int a1), (2, .int a2), (3, .int a3)]) dX8_isRowSame_1 (by decide) rfl ?_
  refine V_iconst (v := 0) dX8_isRowSame_3 (by decide) ?_
  refine V_istore (lo2 := [(5, .int 0), (4, .int 1), (0, .ref 51), (1, .int a1), (2, .int a2), (3, .int a3)]) dX8_isRowSame_4 (by decide) rfl ?_
  refine V_sub (lo2 := [(0, .ref 51), (1, .int a1), (2, .int a2), (3, .int a3), (4, .int 1), (5, .int 0)]) [2, 3, 4, 5, 1, 0] rfl ?_
  obtain ⟨f9, h⟩ := h
  refine swX8_isRowSame_6 hS f9 _ _ h
def wX8_alike_6 (a1 : Int32) (a2 : Int32) (a3 : Int32) (I : QI) (post : Int32 → Prop) : Nat → Int32 → Int32 → Prop
  | 0, _, _ => False
  | n + 1, x4, x5 => ((a3 ≤ x5 → post x4) ∧ (¬ a3 ≤ x5 → (wX8_isRowSame a1 a2 x5 I (fun r1 => ((r1 = 0 → (∀ v2 : Int32, v2 = (x4 + 0) → (∀ v3 : Int32, v3 = (x5 + 1) → (wX8_alike_6 a1 a2 a3 I post n v2 v3)))) ∧ (¬ r1 = 0 → (∀ v4 : Int32, v4 = (x4 + 1) → (∀ v5 : Int32, v5 = (x5 + 1) → (wX8_alike_6 a1 a2 a3 I post n v4 v5)))))))))
set_option maxRecDepth 100000 in
set_option maxHeartbeats 4000000 in
theorem swX8_alike_6 {X : QX} {S : QS} {a1 : Int32} {a2 : Int32} {a3 : Int32} {I : QI} {J : QJ} {post : Int32 → Prop} (hS : Sh S) : ∀ (f : Nat) (x4 : Int32) (x5 : Int32), wX8_alike_6 a1 a2 a3 I post f x4 x5 → V X mX8_alike 2 0 0 (q_Pi S (fun r I2 J2 => I = I2 ∧ J = J2 ∧ post r)) 6 [(0, .ref 51), (1, .int a1), (2, .int a2), (3, .int a3), (4, .int x4), (5, .int x5)] [] S I J 0 0 := by
  intro f
  induction f with
  | zero => intro x4 x5 h; exact h.elim
  | succ n ih =>
    intro x4 x5 h
    replace h : ((a3 ≤ x5 → post x4) ∧ (¬ a3 ≤ x5 → (wX8_isRowSame a1 a2 x5 I (fun r1 => ((r1 = 0 → (∀ v2 : Int32, v2 = (x4 + 0) → (∀ v3 : Int32, v3 = (x5 + 1) → (wX8_alike_6 a1 a2 a3 I post n v2 v3)))) ∧ (¬ r1 = 0 → (∀ v4 : Int32, v4 = (x4 + 1) → (∀ v5 : Int32, v5 = (x5 + 1) → (wX8_alike_6 a1 a2 a3 I post n v4 v5))))))))) := h
    refine V_iload dX8_alike_6 rfl ?_
    refine V_iload_n dX8_alike_8 rfl rfl ?_
    refine V_icmp_ge 39 dX8_alike_9 rfl (fun hc => ?_) (fun hc => ?_)
    · replace h := h.1 hc
      refine V_iload dX8_alike_39 rfl ?_
      exact V_iret dX8_alike_41 rfl (by decide) (by decide) ⟨_, rfl, rfl, rfl, rfl, h⟩
    · replace h := h.2 hc
      refine V_iload dX8_alike_12 rfl ?_
      refine V_aload_n dX8_alike_14 rfl rfl ?_
      refine V_iload_n dX8_alike_15 rfl rfl ?_
      refine V_iload_n dX8_alike_16 rfl rfl ?_
      refine V_iload dX8_alike_17 rfl ?_
      refine V_callVi (st := [.int x4]) [.int a1, .int a2, .int x5] dX8_alike_19 ok_mX8_isRowSame rfl ml_RX8_269 in_mX8_isRowSame se_mX8_isRowSame (hS.n 51 rfl) (hS.k 51 8 rfl) (by decide) rfl (Nat.le_of_ble_eq_true rfl) (by decide) (by decide) (by decide) (s_mX8_isRowSame hS h) (fun r1 I9 J9 h => ?_)
      obtain ⟨rfl, rfl, h⟩ := h
      refine V_if_eq 29 dX8_alike_22 rfl (fun hc => ?_) (fun hc => ?_)
      · replace h := h.1 hc
        refine V_iconst (v := 0) dX8_alike_29 (by decide) ?_
        refine V_iadd dX8_alike_30 ?_
        refine V_topi (fun v2 e_v2 => ?_)
        replace h := h v2 e_v2
        refine V_istore (lo2 := [(4, .int v2), (0, .ref 51), (1, .int a1), (2, .int a2), (3, .int a3), (5, .int x5)]) dX8_alike_31 (by decide) rfl ?_
        obtain ⟨v3, e_v3⟩ : ∃ z : Int32, z = (x5 + 1) := ⟨_, rfl⟩
        replace h := h v3 e_v3
        refine V_iinc (lo2 := [(5, .int v3), (4, .int v2), (0, .ref 51), (1, .int a1), (2, .int a2), (3, .int a3)]) 5 dX8_alike_33 rfl (v := v3) (by rw [e_v3]; first | done | rfl) (by decide) rfl ?_
        refine V_goto 6 dX8_alike_36 rfl ?_
        refine V_sub (lo2 := [(0, .ref 51), (1, .int a1), (2, .int a2), (3, .int a3), (4, .int v2), (5, .int v3)]) [2, 3, 4, 5, 1, 0] rfl ?_
        exact ih _ _ h
      · replace h := h.2 hc
        refine V_iconst (v := 1) dX8_alike_25 (by decide) ?_
        refine V_goto 30 dX8_alike_26 rfl ?_
        refine V_iadd dX8_alike_30 ?_
        refine V_topi (fun v4 e_v4 => ?_)
        replace h := h v4 e_v4
        refine V_istore (lo2 := [(4, .int v4), (0, .ref 51), (1, .int a1), (2, .int a2), (3, .int a3), (5, .int x5)]) dX8_alike_31 (by decide) rfl ?_
        obtain ⟨v5, e_v5⟩ : ∃ z : Int32, z = (x5 + 1) := ⟨_, rfl⟩
        replace h := h v5 e_v5
        refine V_iinc (lo2 := [(5, .int v5), (4, .int v4), (0, .ref 51), (1, .int a1), (2, .int a2), (3, .int a3)]) 5 dX8_alike_33 rfl (v := v5) (by rw [e_v5]; first | done | rfl) (by decide) rfl ?_
        refine V_goto 6 dX8_alike_36 rfl ?_
        refine V_sub (lo2 := [(0, .ref 51), (1, .int a1), (2, .int a2), (3, .int a3), (4, .int v4), (5, .int v5)]) [2, 3, 4, 5, 1, 0] rfl ?_
        exact ih _ _ h
def wX8_alike (a1 : Int32) (a2 : Int32) (a3 : Int32) (I : QI) (post : Int32 → Prop) : Prop := (∃ f : Nat, wX8_alike_6 a1 a2 a3 I post f 0 0)
set_option maxRecDepth 100000 in
set_option maxHeartbeats 4000000 in
theorem s_mX8_alike {X : QX} {S : QS} {a1 : Int32} {a2 : Int32} {a3 : Int32} {I : QI} {J : QJ} {post : Int32 → Prop} (hS : Sh S) (h : wX8_alike a1 a2 a3 I post) : CX X mX8_alike 2 0 0 [.ref 51, .int a1, .int a2, .int a3] S I J (q_Pi S (fun r I2 J2 => I = I2 ∧ J = J2 ∧ post r)) := by
  refine CX.of (lo := [(0, .ref 51), (1, .int a1), (2, .int a2), (3, .int a3)]) ok_mX8_alike rfl (Nat.le_of_ble_eq_true rfl) rfl ?_
  replace h : (∃ f : Nat, wX8_alike_6 a1 a2 a3 I post f 0 0) := h
  refine V_iconst (v := 0) dX8_alike_0 (by decide) ?_
  refine V_istore (lo2 := [(4, .int 0), (0, .ref 51), (1, .int a1), (2, .int a2), (3, .int a3)]) dX8_alike_1 (by decide) rfl ?_
  refine V_iconst (v := 0) dX8_alike_3 (by decide) ?_
  refine V_istore (lo2 := [(5, .int 0), (4, .int 0), (0, .ref 51), (1, .int a1), (2, .int a2), (3, .int a3)]) dX8_alike_4 (by decide) rfl ?_
  refine V_sub (lo2 := [(0, .ref 51), (1, .int a1), (2, .int a2), (3, .int a3), (4, .int 0), (5, .int 0)]) [2, 3, 4, 5, 1, 0] rfl ?_
  obtain ⟨f9, h⟩ := h
  refine swX8_alike_6 hS f9 _ _ h
def wX8_meet (a1 : Int32) (a2 : Int32) (a3 : Int32) (I : QI) (post : Int32 → Prop) : Prop := (vp_in (4 * a1) 16 ∧ (vp_in ((4 * a1) + 1) 16 ∧ (wX8_at (I 63 ((4 * a1)).toNatClampNeg) a2 (I 63 (((4 * a1) + 1)).toNatClampNeg) I (fun r1 => (vp_in ((4 * a1) + 2) 16 ∧ (vp_in ((4 * a1) + 3) 16 ∧ (wX8_at (I 63 (((4 * a1) + 2)).toNatClampNeg) a3 (I 63 (((4 * a1) + 3)).toNatClampNeg) I (fun r2 => (wX8_isTrue r1 0 r2 I (fun r3 => ((r3 = 0 ∨ r3 = 1) ∧ post r3)))))))))))
set_option maxRecDepth 100000 in
set_option maxHeartbeats 4000000 in
theorem s_mX8_meet {X : QX} {S : QS} {a1 : Int32} {a2 : Int32} {a3 : Int32} {I : QI} {J : QJ} {post : Int32 → Prop} (hS : Sh S) (h : wX8_meet a1 a2 a3 I post) : CX X mX8_meet 1 0 0 [.ref 51, .int a1, .int a2, .int a3] S I J (q_Pi S (fun r I2 J2 => I = I2 ∧ J = J2 ∧ post r)) := by
  refine CX.of (lo := [(0, .ref 51), (1, .int a1), (2, .int a2), (3, .int a3)]) ok_mX8_meet rfl (Nat.le_of_ble_eq_true rfl) rfl ?_
  replace h : (vp_in (4 * a1) 16 ∧ (vp_in ((4 * a1) + 1) 16 ∧ (wX8_at (I 63 ((4 * a1)).toNatClampNeg) a2 (I 63 (((4 * a1) + 1)).toNatClampNeg) I (fun r1 => (vp_in ((4 * a1) + 2) 16 ∧ (vp_in ((4 * a1) + 3) 16 ∧ (wX8_at (I 63 (((4 * a1) + 2)).toNatClampNeg) a3 (I 63 (((4 * a1) + 3)).toNatClampNeg) I (fun r2 => (wX8_isTrue r1 0 r2 I (fun r3 => ((r3 = 0 ∨ r3 = 1) ∧ post r3))))))))))) := h
  refine V_aload_n dX8_meet_0 rfl rfl ?_
  refine V_aload_n dX8_meet_1 rfl rfl ?_
  refine V_getr dX8_meet_2 fl_RX8_48 (hS.n 51 rfl) (hS.k 51 8 rfl) rfl (hS.r 51 17 63 rfl) ?_
  refine V_iconst (v := 4) dX8_meet_5 (by decide) ?_
  refine V_iload_n dX8_meet_6 rfl rfl ?_
  refine V_imul dX8_meet_7 ?_
  obtain ⟨hb, h⟩ := h
  refine V_iald dX8_meet_8 (hS.n 63 rfl) (hS.k 63 9 rfl) (by rw [(hS.z 63 16 rfl)]; exact hb) ?_
  refine V_iload_n dX8_meet_9 rfl rfl ?_
  refine V_aload_n dX8_meet_10 rfl rfl ?_
  refine V_getr dX8_meet_11 fl_RX8_48 (hS.n 51 rfl) (hS.k 51 8 rfl) rfl (hS.r 51 17 63 rfl) ?_
  refine V_iconst (v := 4) dX8_meet_14 (by decide) ?_
  refine V_iload_n dX8_meet_15 rfl rfl ?_
  refine V_imul dX8_meet_16 ?_
  refine V_iconst (v := 1) dX8_meet_17 (by decide) ?_
  refine V_iadd dX8_meet_18 ?_
  obtain ⟨hb, h⟩ := h
  refine V_iald dX8_meet_19 (hS.n 63 rfl) (hS.k 63 9 rfl) (by rw [(hS.z 63 16 rfl)]; exact hb) ?_
  refine V_callVi (st := []) [.int (I 63 ((4 * a1)).toNatClampNeg), .int a2, .int (I 63 (((4 * a1) + 1)).toNatClampNeg)] dX8_meet_20 ok_mX8_at rfl ml_RX8_152 in_mX8_at se_mX8_at (hS.n 51 rfl) (hS.k 51 8 rfl) (by decide) rfl (Nat.le_of_ble_eq_true rfl) (by decide) (by decide) (by decide) (s_mX8_at hS h) (fun r1 I9 J9 h => ?_)
  obtain ⟨rfl, rfl, h⟩ := h
  refine V_iconst (v := 0) dX8_meet_23 (by decide) ?_
  refine V_aload_n dX8_meet_24 rfl rfl ?_
  refine V_aload_n dX8_meet_25 rfl rfl ?_
  refine V_getr dX8_meet_26 fl_RX8_48 (hS.n 51 rfl) (hS.k 51 8 rfl) rfl (hS.r 51 17 63 rfl) ?_
  refine V_iconst (v := 4) dX8_meet_29 (by decide) ?_
  refine V_iload_n dX8_meet_30 rfl rfl ?_
  refine V_imul dX8_meet_31 ?_
  refine V_iconst (v := 2) dX8_meet_32 (by decide) ?_
  refine V_iadd dX8_meet_33 ?_
  obtain ⟨hb, h⟩ := h
  refine V_iald dX8_meet_34 (hS.n 63 rfl) (hS.k 63 9 rfl) (by rw [(hS.z 63 16 rfl)]; exact hb) ?_
  refine V_iload_n dX8_meet_35 rfl rfl ?_
  refine V_aload_n dX8_meet_36 rfl rfl ?_
  refine V_getr dX8_meet_37 fl_RX8_48 (hS.n 51 rfl) (hS.k 51 8 rfl) rfl (hS.r 51 17 63 rfl) ?_
  refine V_iconst (v := 4) dX8_meet_40 (by decide) ?_
  refine V_iload_n dX8_meet_41 rfl rfl ?_
  refine V_imul dX8_meet_42 ?_
  refine V_iconst (v := 3) dX8_meet_43 (by decide) ?_
  refine V_iadd dX8_meet_44 ?_
  obtain ⟨hb, h⟩ := h
  refine V_iald dX8_meet_45 (hS.n 63 rfl) (hS.k 63 9 rfl) (by rw [(hS.z 63 16 rfl)]; exact hb) ?_
  refine V_callVi (st := [.int 0, .int r1]) [.int (I 63 (((4 * a1) + 2)).toNatClampNeg), .int a3, .int (I 63 (((4 * a1) + 3)).toNatClampNeg)] dX8_meet_46 ok_mX8_at rfl ml_RX8_152 in_mX8_at se_mX8_at (hS.n 51 rfl) (hS.k 51 8 rfl) (by decide) rfl (Nat.le_of_ble_eq_true rfl) (by decide) (by decide) (by decide) (s_mX8_at hS h) (fun r2 I9 J9 h => ?_)
  obtain ⟨rfl, rfl, h⟩ := h
  refine V_callSi (st := []) [.int r1, .int 0, .int r2] dX8_meet_49 ok_mX8_isTrue rfl ml_RX8_155 st_mX8_isTrue (Nat.le_of_ble_eq_true rfl) (by decide) (by decide) (by decide) (s_mX8_isTrue hS h) (fun r3 I9 J9 h => ?_)
  obtain ⟨rfl, rfl, h⟩ := h
  obtain ⟨hz, h⟩ := h
  exact V_zret dX8_meet_52 rfl (q_nz hz) (by decide) (by decide) ⟨_, rfl, rfl, rfl, rfl, h⟩
def wX8_different_68 (a1 : Int32) (K131 : Int32 → Int32 → Int32 → Int32 → QI → Prop) (post : Int32 → QI → Prop) : Nat → Int32 → Int32 → Int32 → Int32 → Int32 → QI → Prop
  | 0, _, _, _, _, _, _ => False
  | n + 1, x2, x3, x4, x5, x6, I => (vp_in x3 4 ∧ (((I 53 (x3).toNatClampNeg) ≤ x6 → (K131 x2 x3 x4 x5 I)) ∧ (¬ (I 53 (x3).toNatClampNeg) ≤ x6 → (wX8_meet a1 x5 x6 I (fun r6 => ((r6 = 0 → (∀ v7 : Int32, v7 = (x4 + 0) → (∀ v8 : Int32, v8 = (x6 + 1) → (wX8_different_68 a1 K131 post n x2 x3 v7 x5 v8 I)))) ∧ (¬ r6 = 0 → (wX8_alike x2 x5 x5 I (fun r9 => ((¬ r9 = 0 → (∀ v10 : Int32, v10 = (x4 + 0) → (∀ v11 : Int32, v11 = (x6 + 1) → (wX8_different_68 a1 K131 post n x2 x3 v10 x5 v11 I)))) ∧ (r9 = 0 → (wX8_alike x3 x6 x6 I (fun r12 => ((¬ r12 = 0 → (∀ v13 : Int32, v13 = (x4 + 0) → (∀ v14 : Int32, v14 = (x6 + 1) → (wX8_different_68 a1 K131 post n x2 x3 v13 x5 v14 I)))) ∧ (r12 = 0 → (∀ v15 : Int32, v15 = (x4 + 1) → (∀ v16 : Int32, v16 = (x6 + 1) → (wX8_different_68 a1 K131 post n x2 x3 v15 x5 v16 I))))))))))))))))))
set_option maxRecDepth 100000 in
set_option maxHeartbeats 4000000 in
theorem swX8_different_68 {X : QX} {S : QS} {a1 : Int32} {J : QJ} {K131 : Int32 → Int32 → Int32 → Int32 → QI → Prop} {post : Int32 → QI → Prop} (hS : Sh S) (hK131 : ∀ (z2 : Int32) (z3 : Int32) (z4 : Int32) (z5 : Int32) (I : QI), K131 z2 z3 z4 z5 I → V X mX8_different 3 0 0 (q_Pi S (fun r I2 J2 => J = J2 ∧ post r I2)) 131 [(0, .ref 51), (1, .int a1), (2, .int z2), (3, .int z3), (4, .int z4), (5, .int z5)] [] S I J 0 0) : ∀ (f : Nat) (x2 : Int32) (x3 : Int32) (x4 : Int32) (x5 : Int32) (x6 : Int32) (I : QI), wX8_different_68 a1 K131 post f x2 x3 x4 x5 x6 I → V X mX8_different 3 0 0 (q_Pi S (fun r I2 J2 => J = J2 ∧ post r I2)) 68 [(0, .ref 51), (1, .int a1), (2, .int x2), (3, .int x3), (4, .int x4), (5, .int x5), (6, .int x6)] [] S I J 0 0 := by
  intro f
  induction f with
  | zero => intro x2 x3 x4 x5 x6 I h; exact h.elim
  | succ n ih =>
    intro x2 x3 x4 x5 x6 I h
    replace h : (vp_in x3 4 ∧ (((I 53 (x3).toNatClampNeg) ≤ x6 → (K131 x2 x3 x4 x5 I)) ∧ (¬ (I 53 (x3).toNatClampNeg) ≤ x6 → (wX8_meet a1 x5 x6 I (fun r6 => ((r6 = 0 → (∀ v7 : Int32, v7 = (x4 + 0) → (∀ v8 : Int32, v8 = (x6 + 1) → (wX8_different_68 a1 K131 post n x2 x3 v7 x5 v8 I)))) ∧ (¬ r6 = 0 → (wX8_alike x2 x5 x5 I (fun r9 => ((¬ r9 = 0 → (∀ v10 : Int32, v10 = (x4 + 0) → (∀ v11 : Int32, v11 = (x6 + 1) → (wX8_different_68 a1 K131 post n x2 x3 v10 x5 v11 I)))) ∧ (r9 = 0 → (wX8_alike x3 x6 x6 I (fun r12 => ((¬ r12 = 0 → (∀ v13 : Int32, v13 = (x4 + 0) → (∀ v14 : Int32, v14 = (x6 + 1) → (wX8_different_68 a1 K131 post n x2 x3 v13 x5 v14 I)))) ∧ (r12 = 0 → (∀ v15 : Int32, v15 = (x4 + 1) → (∀ v16 : Int32, v16 = (x6 + 1) → (wX8_different_68 a1 K131 post n x2 x3 v15 x5 v16 I)))))))))))))))))) := h
    refine V_iload dX8_different_68 rfl ?_
    refine V_aload_n dX8_different_70 rfl rfl ?_
    refine V_getr dX8_different_71 fl_RX8_13 (hS.n 51 rfl) (hS.k 51 8 rfl) rfl (hS.r 51 3 53 rfl) ?_
    refine V_iload_n dX8_different_74 rfl rfl ?_
    obtain ⟨hb, h⟩ := h
    refine V_iald dX8_different_75 (hS.n 53 rfl) (hS.k 53 9 rfl) (by rw [(hS.z 53 4 rfl)]; exact hb) ?_
    refine V_icmp_ge 131 dX8_different_76 rfl (fun hc => ?_) (fun hc => ?_)
    · replace h := h.1 hc
      refine V_sub (lo2 := [(0, .ref 51), (1, .int a1), (2, .int x2), (3, .int x3), (4, .int x4), (5, .int x5)]) [0, 1, 2, 3, 4, 5] rfl ?_
      exact hK131 _ _ _ _ _ h
    · replace h := h.2 hc
      refine V_iload dX8_different_79 rfl ?_
      refine V_aload_n dX8_different_81 rfl rfl ?_
      refine V_iload_n dX8_different_82 rfl rfl ?_
      refine V_iload dX8_different_83 rfl ?_
      refine V_iload dX8_different_85 rfl ?_
      refine V_callVi (st := [.int x4]) [.int a1, .int x5, .int x6] dX8_different_87 ok_mX8_meet rfl ml_RX8_272 in_mX8_meet se_mX8_meet (hS.n 51 rfl) (hS.k 51 8 rfl) (by decide) rfl (Nat.le_of_ble_eq_true rfl) (by decide) (by decide) (by decide) (s_mX8_meet hS h) (fun r6 I9 J9 h => ?_)
      obtain ⟨rfl, rfl, h⟩ := h
      refine V_if_eq 121 dX8_different_90 rfl (fun hc => ?_) (fun hc => ?_)
      · replace h := h.1 hc
        refine V_iconst (v := 0) dX8_different_121 (by decide) ?_
        refine V_iadd dX8_different_122 ?_
        refine V_topi (fun v7 e_v7 => ?_)
        replace h := h v7 e_v7
        refine V_istore (lo2 := [(4, .int v7), (0, .ref 51), (1, .int a1), (2, .int x2), (3, .int x3), (5, .int x5), (6, .int x6)]) dX8_different_123 (by decide) rfl ?_
        obtain ⟨v8, e_v8⟩ : ∃ z : Int32, z = (x6 + 1) := ⟨_, rfl⟩
        replace h := h v8 e_v8
        refine V_iinc (lo2 := [(6, .int v8), (4, .int v7), (0, .ref 51), (1, .int a1), (2, .int x2), (3, .int x3), (5, .int x5)]) 6 dX8_different_125 rfl (v := v8) (by rw [e_v8]; first | done | rfl) (by decide) rfl ?_
        refine V_goto 68 dX8_different_128 rfl ?_
        refine V_sub (lo2 := [(0, .ref 51), (1, .int a1), (2, .int x2), (3, .int x3), (4, .int v7), (5, .int x5), (6, .int v8)]) [2, 3, 4, 5, 1, 6, 0] rfl ?_
        exact ih _ _ _ _ _ _ h
      · replace h := h.2 hc
        refine V_aload_n dX8_different_93 rfl rfl ?_
        refine V_iload_n dX8_different_94 rfl rfl ?_
        refine V_iload dX8_different_95 rfl ?_
        refine V_iload dX8_different_97 rfl ?_
        refine V_callVi (st := [.int x4]) [.int x2, .int x5, .int x5] dX8_different_99 ok_mX8_alike rfl ml_RX8_275 in_mX8_alike se_mX8_alike (hS.n 51 rfl) (hS.k 51 8 rfl) (by decide) rfl (Nat.le_of_ble_eq_true rfl) (by decide) (by decide) (by decide) (s_mX8_alike hS h) (fun r9 I9 J9 h => ?_)
        obtain ⟨rfl, rfl, h⟩ := h
        refine V_if_ne 121 dX8_different_102 rfl (fun hc => ?_) (fun hc => ?_)
        · replace h := h.1 hc
          refine V_iconst (v := 0) dX8_different_121 (by decide) ?_
          refine V_iadd dX8_different_122 ?_
          refine V_topi (fun v10 e_v10 => ?_)
          replace h := h v10 e_v10
          refine V_istore (lo2 := [(4, .int v10), (0, .ref 51), (1, .int a1), (2, .int x2), (3, .int x3), (5, .int x5), (6, .int x6)]) dX8_different_123 (by decide) rfl ?_
          obtain ⟨v11, e_v11⟩ : ∃ z : Int32, z = (x6 + 1) := ⟨_, rfl⟩
          replace h := h v11 e_v11
          refine V_iinc (lo2 := [(6, .int v11), (4, .int v10), (0, .ref 51), (1, .int a1), (2, .int x2), (3, .int x3), (5, .int x5)]) 6 dX8_different_125 rfl (v := v11) (by rw [e_v11]; first | done | rfl) (by decide) rfl ?_
          refine V_goto 68 dX8_different_128 rfl ?_
          refine V_sub (lo2 := [(0, .ref 51), (1, .int a1), (2, .int x2), (3, .int x3), (4, .int v10), (5, .int x5), (6, .int v11)]) [2, 3, 4, 5, 1, 6, 0] rfl ?_
          exact ih _ _ _ _ _ _ h
        · replace h := h.2 hc
          refine V_aload_n dX8_different_105 rfl rfl ?_
          refine V_iload_n dX8_different_106 rfl rfl ?_
          refine V_iload dX8_different_107 rfl ?_
          refine V_iload dX8_different_109 rfl ?_
          refine V_callVi (st := [.int x4]) [.int x3, .int x6, .int x6] dX8_different_111 ok_mX8_alike rfl ml_RX8_275 in_mX8_alike se_mX8_alike (hS.n 51 rfl) (hS.k 51 8 rfl) (by decide) rfl (Nat.le_of_ble_eq_true rfl) (by decide) (by decide) (by decide) (s_mX8_alike hS h) (fun r12 I9 J9 h => ?_)
          obtain ⟨rfl, rfl, h⟩ := h
          refine V_if_ne 121 dX8_different_114 rfl (fun hc => ?_) (fun hc => ?_)
          · replace h := h.1 hc
            refine V_iconst (v := 0) dX8_different_121 (by decide) ?_
            refine V_iadd dX8_different_122 ?_
            refine V_topi (fun v13 e_v13 => ?_)
            replace h := h v13 e_v13
            refine V_istore (lo2 := [(4, .int v13), (0, .ref 51), (1, .int a1), (2, .int x2), (3, .int x3), (5, .int x5), (6, .int x6)]) dX8_different_123 (by decide) rfl ?_
            obtain ⟨v14, e_v14⟩ : ∃ z : Int32, z = (x6 + 1) := ⟨_, rfl⟩
            replace h := h v14 e_v14
            refine V_iinc (lo2 := [(6, .int v14), (4, .int v13), (0, .ref 51), (1, .int a1), (2, .int x2), (3, .int x3), (5, .int x5)]) 6 dX8_different_125 rfl (v := v14) (by rw [e_v14]; first | done | rfl) (by decide) rfl ?_
            refine V_goto 68 dX8_different_128 rfl ?_
            refine V_sub (lo2 := [(0, .ref 51), (1, .int a1), (2, .int x2), (3, .int x3), (4, .int v13), (5, .int x5), (6, .int v14)]) [2, 3, 4, 5, 1, 6, 0] rfl ?_
            exact ih _ _ _ _ _ _ h
          · replace h := h.2 hc
            refine V_iconst (v := 1) dX8_different_117 (by decide) ?_
            refine V_goto 122 dX8_different_118 rfl ?_
            refine V_iadd dX8_different_122 ?_
            refine V_topi (fun v15 e_v15 => ?_)
            replace h := h v15 e_v15
            refine V_istore (lo2 := [(4, .int v15), (0, .ref 51), (1, .int a1), (2, .int x2), (3, .int x3), (5, .int x5), (6, .int x6)]) dX8_different_123 (by decide) rfl ?_
            obtain ⟨v16, e_v16⟩ : ∃ z : Int32, z = (x6 + 1) := ⟨_, rfl⟩
            replace h := h v16 e_v16
            refine V_iinc (lo2 := [(6, .int v16), (4, .int v15), (0, .ref 51), (1, .int a1), (2, .int x2), (3, .int x3), (5, .int x5)]) 6 dX8_different_125 rfl (v := v16) (by rw [e_v16]; first | done | rfl) (by decide) rfl ?_
            refine V_goto 68 dX8_different_128 rfl ?_
            refine V_sub (lo2 := [(0, .ref 51), (1, .int a1), (2, .int x2), (3, .int x3), (4, .int v15), (5, .int x5), (6, .int v16)]) [2, 3, 4, 5, 1, 6, 0] rfl ?_
            exact ih _ _ _ _ _ _ h
def wX8_different_54 (a1 : Int32) (post : Int32 → QI → Prop) : Nat → Int32 → Int32 → Int32 → Int32 → QI → Prop
  | 0, _, _, _, _, _ => False
  | n + 1, x2, x3, x4, x5, I => (vp_in x2 4 ∧ (((I 53 (x2).toNatClampNeg) ≤ x5 → post x4 I) ∧ (¬ (I 53 (x2).toNatClampNeg) ≤ x5 → (∃ f : Nat, wX8_different_68 a1 (fun u17 u18 u19 u20 I21 => (∀ v22 : Int32, v22 = (u20 + 1) → (wX8_different_54 a1 post n u17 u18 u19 v22 I21))) post f x2 x3 x4 x5 0 I))))
set_option maxRecDepth 100000 in
set_option maxHeartbeats 4000000 in
theorem swX8_different_54 {X : QX} {S : QS} {a1 : Int32} {J : QJ} {post : Int32 → QI → Prop} (hS : Sh S) : ∀ (f : Nat) (x2 : Int32) (x3 : Int32) (x4 : Int32) (x5 : Int32) (I : QI), wX8_different_54 a1 post f x2 x3 x4 x5 I → V X mX8_different 3 0 0 (q_Pi S (fun r I2 J2 => J = J2 ∧ post r I2)) 54 [(0, .ref 51), (1, .int a1), (2, .int x2), (3, .int x3), (4, .int x4), (5, .int x5)] [] S I J 0 0 := by
  intro f
  induction f with
  | zero => intro x2 x3 x4 x5 I h; exact h.elim
  | succ n ih =>
    intro x2 x3 x4 x5 I h
    replace h : (vp_in x2 4 ∧ (((I 53 (x2).toNatClampNeg) ≤ x5 → post x4 I) ∧ (¬ (I 53 (x2).toNatClampNeg) ≤ x5 → (∃ f : Nat, wX8_different_68 a1 (fun u17 u18 u19 u20 I21 => (∀ v22 : Int32, v22 = (u20 + 1) → (wX8_different_54 a1 post n u17 u18 u19 v22 I21))) post f x2 x3 x4 x5 0 I)))) := h
    refine V_iload dX8_different_54 rfl ?_
    refine V_aload_n dX8_different_56 rfl rfl ?_
    refine V_getr dX8_different_57 fl_RX8_13 (hS.n 51 rfl) (hS.k 51 8 rfl) rfl (hS.r 51 3 53 rfl) ?_
    refine V_iload_n dX8_different_60 rfl rfl ?_
    obtain ⟨hb, h⟩ := h
    refine V_iald dX8_different_61 (hS.n 53 rfl) (hS.k 53 9 rfl) (by rw [(hS.z 53 4 rfl)]; exact hb) ?_
    refine V_icmp_ge 137 dX8_different_62 rfl (fun hc => ?_) (fun hc => ?_)
    · replace h := h.1 hc
      refine V_iload dX8_different_137 rfl ?_
      exact V_iret dX8_different_139 rfl (by decide) (by decide) ⟨_, rfl, rfl, rfl, h⟩
    · replace h := h.2 hc
      refine V_iconst (v := 0) dX8_different_65 (by decide) ?_
      refine V_istore (lo2 := [(6, .int 0), (0, .ref 51), (1, .int a1), (2, .int x2), (3, .int x3), (4, .int x4), (5, .int x5)]) dX8_different_66 (by decide) rfl ?_
      refine V_sub (lo2 := [(0, .ref 51), (1, .int a1), (2, .int x2), (3, .int x3), (4, .int x4), (5, .int x5), (6, .int 0)]) [1, 2, 3, 4, 5, 6, 0] rfl ?_
      obtain ⟨f9, h⟩ := h
      refine swX8_different_68 hS ?_ f9 _ _ _ _ _ _ h
      · intro u17 u18 u19 u20 I21 h
        obtain ⟨v22, e_v22⟩ : ∃ z : Int32, z = (u20 + 1) := ⟨_, rfl⟩
        replace h := h v22 e_v22
        refine V_iinc (lo2 := [(5, .int v22), (0, .ref 51), (1, .int a1), (2, .int u17), (3, .int u18), (4, .int u19)]) 5 dX8_different_131 rfl (v := v22) (by rw [e_v22]; first | done | rfl) (by decide) rfl ?_
        refine V_goto 54 dX8_different_134 rfl ?_
        refine V_sub (lo2 := [(0, .ref 51), (1, .int a1), (2, .int u17), (3, .int u18), (4, .int u19), (5, .int v22)]) [1, 2, 3, 4, 5, 0] rfl ?_
        exact ih _ _ _ _ _ h
def wX8_different (a1 : Int32) (I : QI) (post : Int32 → QI → Prop) : Prop := (wX8_in a1 0 ((I 51 16) - 1) I (fun r1 => ((r1 = 0 → (wX8_goesWell 1 I (fun r3 I2 => ((¬ r3 = 0 → (vp_in (4 * a1) 16 ∧ (∀ v4 : Int32, v4 = (I2 63 ((4 * a1)).toNatClampNeg) → (vp_in ((4 * a1) + 2) 16 ∧ (∀ v5 : Int32, v5 = (I2 63 (((4 * a1) + 2)).toNatClampNeg) → (∃ f : Nat, wX8_different_54 a1 post f v4 v5 0 0 I2)))))) ∧ (r3 = 0 → post 0 I2))))) ∧ (¬ r1 = 0 → (wX8_goesWell 0 I (fun r24 I23 => ((¬ r24 = 0 → (vp_in (4 * a1) 16 ∧ (∀ v25 : Int32, v25 = (I23 63 ((4 * a1)).toNatClampNeg) → (vp_in ((4 * a1) + 2) 16 ∧ (∀ v26 : Int32, v26 = (I23 63 (((4 * a1) + 2)).toNatClampNeg) → (∃ f : Nat, wX8_different_54 a1 post f v25 v26 0 0 I23)))))) ∧ (r24 = 0 → post 0 I23))))))))
set_option maxRecDepth 100000 in
set_option maxHeartbeats 4000000 in
theorem s_mX8_different {X : QX} {S : QS} {a1 : Int32} {I : QI} {J : QJ} {post : Int32 → QI → Prop} (hS : Sh S) (h : wX8_different a1 I post) : CX X mX8_different 3 0 0 [.ref 51, .int a1] S I J (q_Pi S (fun r I2 J2 => J = J2 ∧ post r I2)) := by
  refine CX.of (lo := [(0, .ref 51), (1, .int a1)]) ok_mX8_different rfl (Nat.le_of_ble_eq_true rfl) rfl ?_
  replace h : (wX8_in a1 0 ((I 51 16) - 1) I (fun r1 => ((r1 = 0 → (wX8_goesWell 1 I (fun r3 I2 => ((¬ r3 = 0 → (vp_in (4 * a1) 16 ∧ (∀ v4 : Int32, v4 = (I2 63 ((4 * a1)).toNatClampNeg) → (vp_in ((4 * a1) + 2) 16 ∧ (∀ v5 : Int32, v5 = (I2 63 (((4 * a1) + 2)).toNatClampNeg) → (∃ f : Nat, wX8_different_54 a1 post f v4 v5 0 0 I2)))))) ∧ (r3 = 0 → post 0 I2))))) ∧ (¬ r1 = 0 → (wX8_goesWell 0 I (fun r24 I23 => ((¬ r24 = 0 → (vp_in (4 * a1) 16 ∧ (∀ v25 : Int32, v25 = (I23 63 ((4 * a1)).toNatClampNeg) → (vp_in ((4 * a1) + 2) 16 ∧ (∀ v26 : Int32, v26 = (I23 63 (((4 * a1) + 2)).toNatClampNeg) → (∃ f : Nat, wX8_different_54 a1 post f v25 v26 0 0 I23)))))) ∧ (r24 = 0 → post 0 I23)))))))) := h
  refine V_aload_n dX8_different_0 rfl rfl ?_
  refine V_iload_n dX8_different_1 rfl rfl ?_
  refine V_iconst (v := 0) dX8_different_2 (by decide) ?_
  refine V_aload_n dX8_different_3 rfl rfl ?_
  refine V_geti dX8_different_4 fl_RX8_266 (hS.n 51 rfl) (hS.k 51 8 rfl) rfl ?_
  refine V_iconst (v := 1) dX8_different_7 (by decide) ?_
  refine V_isub dX8_different_8 ?_
  refine V_callSi (st := [.ref 51]) [.int a1, .int 0, .int ((I 51 16) - 1)] dX8_different_9 ok_mX8_in rfl ml_RX8_104 st_mX8_in (Nat.le_of_ble_eq_true rfl) (by decide) (by decide) (by decide) (s_mX8_in hS h) (fun r1 I9 J9 h => ?_)
  obtain ⟨rfl, rfl, h⟩ := h
  refine V_if_eq 19 dX8_different_12 rfl (fun hc => ?_) (fun hc => ?_)
  · replace h := h.1 hc
    refine V_iconst (v := 1) dX8_different_19 (by decide) ?_
    refine V_callVi (st := []) [.int 1] dX8_different_20 ok_mX8_goesWell rfl ml_RX8_112 in_mX8_goesWell se_mX8_goesWell (hS.n 51 rfl) (hS.k 51 8 rfl) (by decide) rfl (Nat.le_of_ble_eq_true rfl) (by decide) (by decide) (by decide) (s_mX8_goesWell hS h) (fun r3 I2 J9 h => ?_)
    obtain ⟨rfl, h⟩ := h
    refine V_if_ne 28 dX8_different_23 rfl (fun hc => ?_) (fun hc => ?_)
    · replace h := h.1 hc
      refine V_aload_n dX8_different_28 rfl rfl ?_
      refine V_getr dX8_different_29 fl_RX8_48 (hS.n 51 rfl) (hS.k 51 8 rfl) rfl (hS.r 51 17 63 rfl) ?_
      refine V_iconst (v := 4) dX8_different_32 (by decide) ?_
      refine V_iload_n dX8_different_33 rfl rfl ?_
      refine V_imul dX8_different_34 ?_
      obtain ⟨hb, h⟩ := h
      refine V_iald dX8_different_35 (hS.n 63 rfl) (hS.k 63 9 rfl) (by rw [(hS.z 63 16 rfl)]; exact hb) ?_
      refine V_topi (fun v4 e_v4 => ?_)
      replace h := h v4 e_v4
      refine V_istore_n (lo2 := [(2, .int v4), (0, .ref 51), (1, .int a1)]) dX8_different_36 rfl (by decide) rfl ?_
      refine V_aload_n dX8_different_37 rfl rfl ?_
      refine V_getr dX8_different_38 fl_RX8_48 (hS.n 51 rfl) (hS.k 51 8 rfl) rfl (hS.r 51 17 63 rfl) ?_
      refine V_iconst (v := 4) dX8_different_41 (by decide) ?_
      refine V_iload_n dX8_different_42 rfl rfl ?_
      refine V_imul dX8_different_43 ?_
      refine V_iconst (v := 2) dX8_different_44 (by decide) ?_
      refine V_iadd dX8_different_45 ?_
      obtain ⟨hb, h⟩ := h
      refine V_iald dX8_different_46 (hS.n 63 rfl) (hS.k 63 9 rfl) (by rw [(hS.z 63 16 rfl)]; exact hb) ?_
      refine V_topi (fun v5 e_v5 => ?_)
      replace h := h v5 e_v5
      refine V_istore_n (lo2 := [(3, .int v5), (2, .int v4), (0, .ref 51), (1, .int a1)]) dX8_different_47 rfl (by decide) rfl ?_
      refine V_iconst (v := 0) dX8_different_48 (by decide) ?_
      refine V_istore (lo2 := [(4, .int 0), (3, .int v5), (2, .int v4), (0, .ref 51), (1, .int a1)]) dX8_different_49 (by decide) rfl ?_
      refine V_iconst (v := 0) dX8_different_51 (by decide) ?_
      refine V_istore (lo2 := [(5, .int 0), (4, .int 0), (3, .int v5), (2, .int v4), (0, .ref 51), (1, .int a1)]) dX8_different_52 (by decide) rfl ?_
      refine V_sub (lo2 := [(0, .ref 51), (1, .int a1), (2, .int v4), (3, .int v5), (4, .int 0), (5, .int 0)]) [4, 5, 3, 2, 1, 0] rfl ?_
      obtain ⟨f9, h⟩ := h
      refine swX8_different_54 hS f9 _ _ _ _ _ h
    · replace h := h.2 hc
      refine V_iconst (v := 0) dX8_different_26 (by decide) ?_
      exact V_iret dX8_different_27 rfl (by decide) (by decide) ⟨_, rfl, rfl, rfl, h⟩
  · replace h := h.2 hc
    refine V_iconst (v := 0) dX8_different_15 (by decide) ?_
    refine V_goto 20 dX8_different_16 rfl ?_
    refine V_callVi (st := []) [.int 0] dX8_different_20 ok_mX8_goesWell rfl ml_RX8_112 in_mX8_goesWell se_mX8_goesWell (hS.n 51 rfl) (hS.k 51 8 rfl) (by decide) rfl (Nat.le_of_ble_eq_true rfl) (by decide) (by decide) (by decide) (s_mX8_goesWell hS h) (fun r24 I23 J9 h => ?_)
    obtain ⟨rfl, h⟩ := h
    refine V_if_ne 28 dX8_different_23 rfl (fun hc => ?_) (fun hc => ?_)
    · replace h := h.1 hc
      refine V_aload_n dX8_different_28 rfl rfl ?_
      refine V_getr dX8_different_29 fl_RX8_48 (hS.n 51 rfl) (hS.k 51 8 rfl) rfl (hS.r 51 17 63 rfl) ?_
      refine V_iconst (v := 4) dX8_different_32 (by decide) ?_
      refine V_iload_n dX8_different_33 rfl rfl ?_
      refine V_imul dX8_different_34 ?_
      obtain ⟨hb, h⟩ := h
      refine V_iald dX8_different_35 (hS.n 63 rfl) (hS.k 63 9 rfl) (by rw [(hS.z 63 16 rfl)]; exact hb) ?_
      refine V_topi (fun v25 e_v25 => ?_)
      replace h := h v25 e_v25
      refine V_istore_n (lo2 := [(2, .int v25), (0, .ref 51), (1, .int a1)]) dX8_different_36 rfl (by decide) rfl ?_
      refine V_aload_n dX8_different_37 rfl rfl ?_
      refine V_getr dX8_different_38 fl_RX8_48 (hS.n 51 rfl) (hS.k 51 8 rfl) rfl (hS.r 51 17 63 rfl) ?_
      refine V_iconst (v := 4) dX8_different_41 (by decide) ?_
      refine V_iload_n dX8_different_42 rfl rfl ?_
      refine V_imul dX8_different_43 ?_
      refine V_iconst (v := 2) dX8_different_44 (by decide) ?_
      refine V_iadd dX8_different_45 ?_
      obtain ⟨hb, h⟩ := h
      refine V_iald dX8_different_46 (hS.n 63 rfl) (hS.k 63 9 rfl) (by rw [(hS.z 63 16 rfl)]; exact hb) ?_
      refine V_topi (fun v26 e_v26 => ?_)
      replace h := h v26 e_v26
      refine V_istore_n (lo2 := [(3, .int v26), (2, .int v25), (0, .ref 51), (1, .int a1)]) dX8_different_47 rfl (by decide) rfl ?_
      refine V_iconst (v := 0) dX8_different_48 (by decide) ?_
      refine V_istore (lo2 := [(4, .int 0), (3, .int v26), (2, .int v25), (0, .ref 51), (1, .int a1)]) dX8_different_49 (by decide) rfl ?_
      refine V_iconst (v := 0) dX8_different_51 (by decide) ?_
      refine V_istore (lo2 := [(5, .int 0), (4, .int 0), (3, .int v26), (2, .int v25), (0, .ref 51), (1, .int a1)]) dX8_different_52 (by decide) rfl ?_
      refine V_sub (lo2 := [(0, .ref 51), (1, .int a1), (2, .int v25), (3, .int v26), (4, .int 0), (5, .int 0)]) [4, 5, 3, 2, 1, 0] rfl ?_
      obtain ⟨f9, h⟩ := h
      refine swX8_different_54 hS f9 _ _ _ _ _ h
    · replace h := h.2 hc
      refine V_iconst (v := 0) dX8_different_26 (by decide) ?_
      exact V_iret dX8_different_27 rfl (by decide) (by decide) ⟨_, rfl, rfl, rfl, h⟩
def wX8_often (a1 : Int32) (a2 : Int32) (a3 : Int32) (I : QI) (post : Int32 → QI → Prop) : Prop := (wX8_in a1 0 ((I 51 16) - 1) I (fun r1 => ((r1 = 0 → (wX8_goesWell 1 I (fun r3 I2 => ((r3 = 0 → post 0 I2) ∧ (¬ r3 = 0 → (wX8_meet a1 a2 a3 I2 (fun r4 => ((¬ r4 = 0 → (vp_in (4 * a1) 16 ∧ (vp_in (4 * a1) 16 ∧ (vp_in (I2 63 ((4 * a1)).toNatClampNeg) 4 ∧ (wX8_alike (I2 63 ((4 * a1)).toNatClampNeg) a2 (I2 53 ((I2 63 ((4 * a1)).toNatClampNeg)).toNatClampNeg) I2 (fun r5 => (vp_in ((4 * a1) + 2) 16 ∧ (vp_in ((4 * a1) + 2) 16 ∧ (vp_in (I2 63 (((4 * a1) + 2)).toNatClampNeg) 4 ∧ (wX8_alike (I2 63 (((4 * a1) + 2)).toNatClampNeg) a3 (I2 53 ((I2 63 (((4 * a1) + 2)).toNatClampNeg)).toNatClampNeg) I2 (fun r6 => post (r5 * r6) I2))))))))))) ∧ (r4 = 0 → post 0 I2))))))))) ∧ (¬ r1 = 0 → (vp_in (4 * a1) 16 ∧ (vp_in (I 63 ((4 * a1)).toNatClampNeg) 4 ∧ (wX8_in a2 0 ((I 53 ((I 63 ((4 * a1)).toNatClampNeg)).toNatClampNeg) - 1) I (fun r7 => ((r7 = 0 → (wX8_goesWell 1 I (fun r9 I8 => ((r9 = 0 → post 0 I8) ∧ (¬ r9 = 0 → (wX8_meet a1 a2 a3 I8 (fun r10 => ((¬ r10 = 0 → (vp_in (4 * a1) 16 ∧ (vp_in (4 * a1) 16 ∧ (vp_in (I8 63 ((4 * a1)).toNatClampNeg) 4 ∧ (wX8_alike (I8 63 ((4 * a1)).toNatClampNeg) a2 (I8 53 ((I8 63 ((4 * a1)).toNatClampNeg)).toNatClampNeg) I8 (fun r11 => (vp_in ((4 * a1) + 2) 16 ∧ (vp_in ((4 * a1) + 2) 16 ∧ (vp_in (I8 63 (((4 * a1) + 2)).toNatClampNeg) 4 ∧ (wX8_alike (I8 63 (((4 * a1) + 2)).toNatClampNeg) a3 (I8 53 ((I8 63 (((4 * a1) + 2)).toNatClampNeg)).toNatClampNeg) I8 (fun r12 => post (r11 * r12) I8))))))))))) ∧ (r10 = 0 → post 0 I8))))))))) ∧ (¬ r7 = 0 → (vp_in ((4 * a1) + 2) 16 ∧ (vp_in (I 63 (((4 * a1) + 2)).toNatClampNeg) 4 ∧ (wX8_in a3 0 ((I 53 ((I 63 (((4 * a1) + 2)).toNatClampNeg)).toNatClampNeg) - 1) I (fun r13 => ((r13 = 0 → (wX8_goesWell 1 I (fun r15 I14 => ((r15 = 0 → post 0 I14) ∧ (¬ r15 = 0 → (wX8_meet a1 a2 a3 I14 (fun r16 => ((¬ r16 = 0 → (vp_in (4 * a1) 16 ∧ (vp_in (4 * a1) 16 ∧ (vp_in (I14 63 ((4 * a1)).toNatClampNeg) 4 ∧ (wX8_alike (I14 63 ((4 * a1)).toNatClampNeg) a2 (I14 53 ((I14 63 ((4 * a1)).toNatClampNeg)).toNatClampNeg) I14 (fun r17 => (vp_in ((4 * a1) + 2) 16 ∧ (vp_in ((4 * a1) + 2) 16 ∧ (vp_in (I14 63 (((4 * a1) + 2)).toNatClampNeg) 4 ∧ (wX8_alike (I14 63 (((4 * a1) + 2)).toNatClampNeg) a3 (I14 53 ((I14 63 (((4 * a1) + 2)).toNatClampNeg)).toNatClampNeg) I14 (fun r18 => post (r17 * r18) I14))))))))))) ∧ (r16 = 0 → post 0 I14))))))))) ∧ (¬ r13 = 0 → (wX8_goesWell 0 I (fun r20 I19 => ((r20 = 0 → post 0 I19) ∧ (¬ r20 = 0 → (wX8_meet a1 a2 a3 I19 (fun r21 => ((¬ r21 = 0 → (vp_in (4 * a1) 16 ∧ (vp_in (4 * a1) 16 ∧ (vp_in (I19 63 ((4 * a1)).toNatClampNeg) 4 ∧ (wX8_alike (I19 63 ((4 * a1)).toNatClampNeg) a2 (I19 53 ((I19 63 ((4 * a1)).toNatClampNeg)).toNatClampNeg) I19 (fun r22 => (vp_in ((4 * a1) + 2) 16 ∧ (vp_in ((4 * a1) + 2) 16 ∧ (vp_in (I19 63 (((4 * a1) + 2)).toNatClampNeg) 4 ∧ (wX8_alike (I19 63 (((4 * a1) + 2)).toNatClampNeg) a3 (I19 53 ((I19 63 (((4 * a1) + 2)).toNatClampNeg)).toNatClampNeg) I19 (fun r23 => post (r22 * r23) I19))))))))))) ∧ (r21 = 0 → post 0 I19))))))))))))))))))))))))
set_option maxRecDepth 100000 in
set_option maxHeartbeats 4000000 in
theorem s_mX8_often {X : QX} {S : QS} {a1 : Int32} {a2 : Int32} {a3 : Int32} {I : QI} {J : QJ} {post : Int32 → QI → Prop} (hS : Sh S) (h : wX8_often a1 a2 a3 I post) : CX X mX8_often 3 0 0 [.ref 51, .int a1, .int a2, .int a3] S I J (q_Pi S (fun r I2 J2 => J = J2 ∧ post r I2)) := by
  refine CX.of (lo := [(0, .ref 51), (1, .int a1), (2, .int a2), (3, .int a3)]) ok_mX8_often rfl (Nat.le_of_ble_eq_true rfl) rfl ?_
  replace h : (wX8_in a1 0 ((I 51 16) - 1) I (fun r1 => ((r1 = 0 → (wX8_goesWell 1 I (fun r3 I2 => ((r3 = 0 → post 0 I2) ∧ (¬ r3 = 0 → (wX8_meet a1 a2 a3 I2 (fun r4 => ((¬ r4 = 0 → (vp_in (4 * a1) 16 ∧ (vp_in (4 * a1) 16 ∧ (vp_in (I2 63 ((4 * a1)).toNatClampNeg) 4 ∧ (wX8_alike (I2 63 ((4 * a1)).toNatClampNeg) a2 (I2 53 ((I2 63 ((4 * a1)).toNatClampNeg)).toNatClampNeg) I2 (fun r5 => (vp_in ((4 * a1) + 2) 16 ∧ (vp_in ((4 * a1) + 2) 16 ∧ (vp_in (I2 63 (((4 * a1) + 2)).toNatClampNeg) 4 ∧ (wX8_alike (I2 63 (((4 * a1) + 2)).toNatClampNeg) a3 (I2 53 ((I2 63 (((4 * a1) + 2)).toNatClampNeg)).toNatClampNeg) I2 (fun r6 => post (r5 * r6) I2))))))))))) ∧ (r4 = 0 → post 0 I2))))))))) ∧ (¬ r1 = 0 → (vp_in (4 * a1) 16 ∧ (vp_in (I 63 ((4 * a1)).toNatClampNeg) 4 ∧ (wX8_in a2 0 ((I 53 ((I 63 ((4 * a1)).toNatClampNeg)).toNatClampNeg) - 1) I (fun r7 => ((r7 = 0 → (wX8_goesWell 1 I (fun r9 I8 => ((r9 = 0 → post 0 I8) ∧ (¬ r9 = 0 → (wX8_meet a1 a2 a3 I8 (fun r10 => ((¬ r10 = 0 → (vp_in (4 * a1) 16 ∧ (vp_in (4 * a1) 16 ∧ (vp_in (I8 63 ((4 * a1)).toNatClampNeg) 4 ∧ (wX8_alike (I8 63 ((4 * a1)).toNatClampNeg) a2 (I8 53 ((I8 63 ((4 * a1)).toNatClampNeg)).toNatClampNeg) I8 (fun r11 => (vp_in ((4 * a1) + 2) 16 ∧ (vp_in ((4 * a1) + 2) 16 ∧ (vp_in (I8 63 (((4 * a1) + 2)).toNatClampNeg) 4 ∧ (wX8_alike (I8 63 (((4 * a1) + 2)).toNatClampNeg) a3 (I8 53 ((I8 63 (((4 * a1) + 2)).toNatClampNeg)).toNatClampNeg) I8 (fun r12 => post (r11 * r12) I8))))))))))) ∧ (r10 = 0 → post 0 I8))))))))) ∧ (¬ r7 = 0 → (vp_in ((4 * a1) + 2) 16 ∧ (vp_in (I 63 (((4 * a1) + 2)).toNatClampNeg) 4 ∧ (wX8_in a3 0 ((I 53 ((I 63 (((4 * a1) + 2)).toNatClampNeg)).toNatClampNeg) - 1) I (fun r13 => ((r13 = 0 → (wX8_goesWell 1 I (fun r15 I14 => ((r15 = 0 → post 0 I14) ∧ (¬ r15 = 0 → (wX8_meet a1 a2 a3 I14 (fun r16 => ((¬ r16 = 0 → (vp_in (4 * a1) 16 ∧ (vp_in (4 * a1) 16 ∧ (vp_in (I14 63 ((4 * a1)).toNatClampNeg) 4 ∧ (wX8_alike (I14 63 ((4 * a1)).toNatClampNeg) a2 (I14 53 ((I14 63 ((4 * a1)).toNatClampNeg)).toNatClampNeg) I14 (fun r17 => (vp_in ((4 * a1) + 2) 16 ∧ (vp_in ((4 * a1) + 2) 16 ∧ (vp_in (I14 63 (((4 * a1) + 2)).toNatClampNeg) 4 ∧ (wX8_alike (I14 63 (((4 * a1) + 2)).toNatClampNeg) a3 (I14 53 ((I14 63 (((4 * a1) + 2)).toNatClampNeg)).toNatClampNeg) I14 (fun r18 => post (r17 * r18) I14))))))))))) ∧ (r16 = 0 → post 0 I14))))))))) ∧ (¬ r13 = 0 → (wX8_goesWell 0 I (fun r20 I19 => ((r20 = 0 → post 0 I19) ∧ (¬ r20 = 0 → (wX8_meet a1 a2 a3 I19 (fun r21 => ((¬ r21 = 0 → (vp_in (4 * a1) 16 ∧ (vp_in (4 * a1) 16 ∧ (vp_in (I19 63 ((4 * a1)).toNatClampNeg) 4 ∧ (wX8_alike (I19 63 ((4 * a1)).toNatClampNeg) a2 (I19 53 ((I19 63 ((4 * a1)).toNatClampNeg)).toNatClampNeg) I19 (fun r22 => (vp_in ((4 * a1) + 2) 16 ∧ (vp_in ((4 * a1) + 2) 16 ∧ (vp_in (I19 63 (((4 * a1) + 2)).toNatClampNeg) 4 ∧ (wX8_alike (I19 63 (((4 * a1) + 2)).toNatClampNeg) a3 (I19 53 ((I19 63 (((4 * a1) + 2)).toNatClampNeg)).toNatClampNeg) I19 (fun r23 => post (r22 * r23) I19))))))))))) ∧ (r21 = 0 → post 0 I19)))))))))))))))))))))))) := h
  refine V_iload_n dX8_often_0 rfl rfl ?_
  refine V_iconst (v := 0) dX8_often_1 (by decide) ?_
  refine V_aload_n dX8_often_2 rfl rfl ?_
  refine V_geti dX8_often_3 fl_RX8_266 (hS.n 51 rfl) (hS.k 51 8 rfl) rfl ?_
  refine V_iconst (v := 1) dX8_often_6 (by decide) ?_
  refine V_isub dX8_often_7 ?_
  refine V_callSi (st := []) [.int a1, .int 0, .int ((I 51 16) - 1)] dX8_often_8 ok_mX8_in rfl ml_RX8_104 st_mX8_in (Nat.le_of_ble_eq_true rfl) (by decide) (by decide) (by decide) (s_mX8_in hS h) (fun r1 I9 J9 h => ?_)
  obtain ⟨rfl, rfl, h⟩ := h
  refine V_if_eq 66 dX8_often_11 rfl (fun hc => ?_) (fun hc => ?_)
  · replace h := h.1 hc
    refine V_iconst (v := 0) dX8_often_66 (by decide) ?_
    refine V_istore (lo2 := [(4, .int 0), (0, .ref 51), (1, .int a1), (2, .int a2), (3, .int a3)]) dX8_often_67 (by decide) rfl ?_
    refine V_aload_n dX8_often_69 rfl rfl ?_
    refine V_iload dX8_often_70 rfl ?_
    refine V_if_eq 79 dX8_often_72 rfl (fun hc => ?_) (fun hc => ?_)
    · refine V_iconst (v := 1) dX8_often_79 (by decide) ?_
      refine V_callVi (st := []) [.int 1] dX8_often_80 ok_mX8_goesWell rfl ml_RX8_112 in_mX8_goesWell se_mX8_goesWell (hS.n 51 rfl) (hS.k 51 8 rfl) (by decide) rfl (Nat.le_of_ble_eq_true rfl) (by decide) (by decide) (by decide) (s_mX8_goesWell hS h) (fun r3 I2 J9 h => ?_)
      obtain ⟨rfl, h⟩ := h
      refine V_if_eq 96 dX8_often_83 rfl (fun hc => ?_) (fun hc => ?_)
      · replace h := h.1 hc
        refine V_iconst (v := 0) dX8_often_96 (by decide) ?_
        exact V_iret dX8_often_97 rfl (by decide) (by decide) ⟨_, rfl, rfl, rfl, h⟩
      · replace h := h.2 hc
        refine V_aload_n dX8_often_86 rfl rfl ?_
        refine V_iload_n dX8_often_87 rfl rfl ?_
        refine V_iload_n dX8_often_88 rfl rfl ?_
        refine V_iload_n dX8_often_89 rfl rfl ?_
        refine V_callVi (st := []) [.int a1, .int a2, .int a3] dX8_often_90 ok_mX8_meet rfl ml_RX8_272 in_mX8_meet se_mX8_meet (hS.n 51 rfl) (hS.k 51 8 rfl) (by decide) rfl (Nat.le_of_ble_eq_true rfl) (by decide) (by decide) (by decide) (s_mX8_meet hS h) (fun r4 I9 J9 h => ?_)
        obtain ⟨rfl, rfl, h⟩ := h
        refine V_if_ne 98 dX8_often_93 rfl (fun hc => ?_) (fun hc => ?_)
        · replace h := h.1 hc
          refine V_aload_n dX8_often_98 rfl rfl ?_
          refine V_aload_n dX8_often_99 rfl rfl ?_
          refine V_getr dX8_often_100 fl_RX8_48 (hS.n 51 rfl) (hS.k 51 8 rfl) rfl (hS.r 51 17 63 rfl) ?_
          refine V_iconst (v := 4) dX8_often_103 (by decide) ?_
          refine V_iload_n dX8_often_104 rfl rfl ?_
          refine V_imul dX8_often_105 ?_
          obtain ⟨hb, h⟩ := h
          refine V_iald dX8_often_106 (hS.n 63 rfl) (hS.k 63 9 rfl) (by rw [(hS.z 63 16 rfl)]; exact hb) ?_
          refine V_iload_n dX8_often_107 rfl rfl ?_
          refine V_aload_n dX8_often_108 rfl rfl ?_
          refine V_getr dX8_often_109 fl_RX8_13 (hS.n 51 rfl) (hS.k 51 8 rfl) rfl (hS.r 51 3 53 rfl) ?_
          refine V_aload_n dX8_often_112 rfl rfl ?_
          refine V_getr dX8_often_113 fl_RX8_48 (hS.n 51 rfl) (hS.k 51 8 rfl) rfl (hS.r 51 17 63 rfl) ?_
          refine V_iconst (v := 4) dX8_often_116 (by decide) ?_
          refine V_iload_n dX8_often_117 rfl rfl ?_
          refine V_imul dX8_often_118 ?_
          obtain ⟨hb, h⟩ := h
          refine V_iald dX8_often_119 (hS.n 63 rfl) (hS.k 63 9 rfl) (by rw [(hS.z 63 16 rfl)]; exact hb) ?_
          obtain ⟨hb, h⟩ := h
          refine V_iald dX8_often_120 (hS.n 53 rfl) (hS.k 53 9 rfl) (by rw [(hS.z 53 4 rfl)]; exact hb) ?_
          refine V_callVi (st := []) [.int (I2 63 ((4 * a1)).toNatClampNeg), .int a2, .int (I2 53 ((I2 63 ((4 * a1)).toNatClampNeg)).toNatClampNeg)] dX8_often_121 ok_mX8_alike rfl ml_RX8_275 in_mX8_alike se_mX8_alike (hS.n 51 rfl) (hS.k 51 8 rfl) (by decide) rfl (Nat.le_of_ble_eq_true rfl) (by decide) (by decide) (by decide) (s_mX8_alike hS h) (fun r5 I9 J9 h => ?_)
          obtain ⟨rfl, rfl, h⟩ := h
          refine V_aload_n dX8_often_124 rfl rfl ?_
          refine V_aload_n dX8_often_125 rfl rfl ?_
          refine V_getr dX8_often_126 fl_RX8_48 (hS.n 51 rfl) (hS.k 51 8 rfl) rfl (hS.r 51 17 63 rfl) ?_
          refine V_iconst (v := 4) dX8_often_129 (by decide) ?_
          refine V_iload_n dX8_often_130 rfl rfl ?_
          refine V_imul dX8_often_131 ?_
          refine V_iconst (v := 2) dX8_often_132 (by decide) ?_
          refine V_iadd dX8_often_133 ?_
          obtain ⟨hb, h⟩ := h
          refine V_iald dX8_often_134 (hS.n 63 rfl) (hS.k 63 9 rfl) (by rw [(hS.z 63 16 rfl)]; exact hb) ?_
          refine V_iload_n dX8_often_135 rfl rfl ?_
          refine V_aload_n dX8_often_136 rfl rfl ?_
          refine V_getr dX8_often_137 fl_RX8_13 (hS.n 51 rfl) (hS.k 51 8 rfl) rfl (hS.r 51 3 53 rfl) ?_
          refine V_aload_n dX8_often_140 rfl rfl ?_
          refine V_getr dX8_often_141 fl_RX8_48 (hS.n 51 rfl) (hS.k 51 8 rfl) rfl (hS.r 51 17 63 rfl) ?_
          refine V_iconst (v := 4) dX8_often_144 (by decide) ?_
          refine V_iload_n dX8_often_145 rfl rfl ?_
          refine V_imul dX8_often_146 ?_
          refine V_iconst (v := 2) dX8_often_147 (by decide) ?_
          refine V_iadd dX8_often_148 ?_
          obtain ⟨hb, h⟩ := h
          refine V_iald dX8_often_149 (hS.n 63 rfl) (hS.k 63 9 rfl) (by rw [(hS.z 63 16 rfl)]; exact hb) ?_
          obtain ⟨hb, h⟩ := h
          refine V_iald dX8_often_150 (hS.n 53 rfl) (hS.k 53 9 rfl) (by rw [(hS.z 53 4 rfl)]; exact hb) ?_
          refine V_callVi (st := [.int r5]) [.int (I2 63 (((4 * a1) + 2)).toNatClampNeg), .int a3, .int (I2 53 ((I2 63 (((4 * a1) + 2)).toNatClampNeg)).toNatClampNeg)] dX8_often_151 ok_mX8_alike rfl ml_RX8_275 in_mX8_alike se_mX8_alike (hS.n 51 rfl) (hS.k 51 8 rfl) (by decide) rfl (Nat.le_of_ble_eq_true rfl) (by decide) (by decide) (by decide) (s_mX8_alike hS h) (fun r6 I9 J9 h => ?_)
          obtain ⟨rfl, rfl, h⟩ := h
          refine V_imul dX8_often_154 ?_
          exact V_iret dX8_often_155 rfl (by decide) (by decide) ⟨_, rfl, rfl, rfl, h⟩
        · replace h := h.2 hc
          refine V_iconst (v := 0) dX8_often_96 (by decide) ?_
          exact V_iret dX8_often_97 rfl (by decide) (by decide) ⟨_, rfl, rfl, rfl, h⟩
    · first | exact absurd hc (by decide) | exact absurd (by decide) hc
  · replace h := h.2 hc
    refine V_iload_n dX8_often_14 rfl rfl ?_
    refine V_iconst (v := 0) dX8_often_15 (by decide) ?_
    refine V_aload_n dX8_often_16 rfl rfl ?_
    refine V_getr dX8_often_17 fl_RX8_13 (hS.n 51 rfl) (hS.k 51 8 rfl) rfl (hS.r 51 3 53 rfl) ?_
    refine V_aload_n dX8_often_20 rfl rfl ?_
    refine V_getr dX8_often_21 fl_RX8_48 (hS.n 51 rfl) (hS.k 51 8 rfl) rfl (hS.r 51 17 63 rfl) ?_
    refine V_iconst (v := 4) dX8_often_24 (by decide) ?_
    refine V_iload_n dX8_often_25 rfl rfl ?_
    refine V_imul dX8_often_26 ?_
    obtain ⟨hb, h⟩ := h
    refine V_iald dX8_often_27 (hS.n 63 rfl) (hS.k 63 9 rfl) (by rw [(hS.z 63 16 rfl)]; exact hb) ?_
    obtain ⟨hb, h⟩ := h
    refine V_iald dX8_often_28 (hS.n 53 rfl) (hS.k 53 9 rfl) (by rw [(hS.z 53 4 rfl)]; exact hb) ?_
    refine V_iconst (v := 1) dX8_often_29 (by decide) ?_
    refine V_isub dX8_often_30 ?_
    refine V_callSi (st := []) [.int a2, .int 0, .int ((I 53 ((I 63 ((4 * a1)).toNatClampNeg)).toNatClampNeg) - 1)] dX8_often_31 ok_mX8_in rfl ml_RX8_104 st_mX8_in (Nat.le_of_ble_eq_true rfl) (by decide) (by decide) (by decide) (s_mX8_in hS h) (fun r7 I9 J9 h => ?_)
    obtain ⟨rfl, rfl, h⟩ := h
    refine V_if_eq 66 dX8_often_34 rfl (fun hc => ?_) (fun hc => ?_)
    · replace h := h.1 hc
      refine V_iconst (v := 0) dX8_often_66 (by decide) ?_
      refine V_istore (lo2 := [(4, .int 0), (0, .ref 51), (1, .int a1), (2, .int a2), (3, .int a3)]) dX8_often_67 (by decide) rfl ?_
      refine V_aload_n dX8_often_69 rfl rfl ?_
      refine V_iload dX8_often_70 rfl ?_
      refine V_if_eq 79 dX8_often_72 rfl (fun hc => ?_) (fun hc => ?_)
      · refine V_iconst (v := 1) dX8_often_79 (by decide) ?_
        refine V_callVi (st := []) [.int 1] dX8_often_80 ok_mX8_goesWell rfl ml_RX8_112 in_mX8_goesWell se_mX8_goesWell (hS.n 51 rfl) (hS.k 51 8 rfl) (by decide) rfl (Nat.le_of_ble_eq_true rfl) (by decide) (by decide) (by decide) (s_mX8_goesWell hS h) (fun r9 I8 J9 h => ?_)
        obtain ⟨rfl, h⟩ := h
        refine V_if_eq 96 dX8_often_83 rfl (fun hc => ?_) (fun hc => ?_)
        · replace h := h.1 hc
          refine V_iconst (v := 0) dX8_often_96 (by decide) ?_
          exact V_iret dX8_often_97 rfl (by decide) (by decide) ⟨_, rfl, rfl, rfl, h⟩
        · replace h := h.2 hc
          refine V_aload_n dX8_often_86 rfl rfl ?_
          refine V_iload_n dX8_often_87 rfl rfl ?_
          refine V_iload_n dX8_often_88 rfl rfl ?_
          refine V_iload_n dX8_often_89 rfl rfl ?_
          refine V_callVi (st := []) [.int a1, .int a2, .int a3] dX8_often_90 ok_mX8_meet rfl ml_RX8_272 in_mX8_meet se_mX8_meet (hS.n 51 rfl) (hS.k 51 8 rfl) (by decide) rfl (Nat.le_of_ble_eq_true rfl) (by decide) (by decide) (by decide) (s_mX8_meet hS h) (fun r10 I9 J9 h => ?_)
          obtain ⟨rfl, rfl, h⟩ := h
          refine V_if_ne 98 dX8_often_93 rfl (fun hc => ?_) (fun hc => ?_)
          · replace h := h.1 hc
            refine V_aload_n dX8_often_98 rfl rfl ?_
            refine V_aload_n dX8_often_99 rfl rfl ?_
            refine V_getr dX8_often_100 fl_RX8_48 (hS.n 51 rfl) (hS.k 51 8 rfl) rfl (hS.r 51 17 63 rfl) ?_
            refine V_iconst (v := 4) dX8_often_103 (by decide) ?_
            refine V_iload_n dX8_often_104 rfl rfl ?_
            refine V_imul dX8_often_105 ?_
            obtain ⟨hb, h⟩ := h
            refine V_iald dX8_often_106 (hS.n 63 rfl) (hS.k 63 9 rfl) (by rw [(hS.z 63 16 rfl)]; exact hb) ?_
            refine V_iload_n dX8_often_107 rfl rfl ?_
            refine V_aload_n dX8_often_108 rfl rfl ?_
            refine V_getr dX8_often_109 fl_RX8_13 (hS.n 51 rfl) (hS.k 51 8 rfl) rfl (hS.r 51 3 53 rfl) ?_
            refine V_aload_n dX8_often_112 rfl rfl ?_
            refine V_getr dX8_often_113 fl_RX8_48 (hS.n 51 rfl) (hS.k 51 8 rfl) rfl (hS.r 51 17 63 rfl) ?_
            refine V_iconst (v := 4) dX8_often_116 (by decide) ?_
            refine V_iload_n dX8_often_117 rfl rfl ?_
            refine V_imul dX8_often_118 ?_
            obtain ⟨hb, h⟩ := h
            refine V_iald dX8_often_119 (hS.n 63 rfl) (hS.k 63 9 rfl) (by rw [(hS.z 63 16 rfl)]; exact hb) ?_
            obtain ⟨hb, h⟩ := h
            refine V_iald dX8_often_120 (hS.n 53 rfl) (hS.k 53 9 rfl) (by rw [(hS.z 53 4 rfl)]; exact hb) ?_
            refine V_callVi (st := []) [.int (I8 63 ((4 * a1)).toNatClampNeg), .int a2, .int (I8 53 ((I8 63 ((4 * a1)).toNatClampNeg)).toNatClampNeg)] dX8_often_121 ok_mX8_alike rfl ml_RX8_275 in_mX8_alike se_mX8_alike (hS.n 51 rfl) (hS.k 51 8 rfl) (by decide) rfl (Nat.le_of_ble_eq_true rfl) (by decide) (by decide) (by decide) (s_mX8_alike hS h) (fun r11 I9 J9 h => ?_)
            obtain ⟨rfl, rfl, h⟩ := h
            refine V_aload_n dX8_often_124 rfl rfl ?_
            refine V_aload_n dX8_often_125 rfl rfl ?_
            refine V_getr dX8_often_126 fl_RX8_48 (hS.n 51 rfl) (hS.k 51 8 rfl) rfl (hS.r 51 17 63 rfl) ?_
            refine V_iconst (v := 4) dX8_often_129 (by decide) ?_
            refine V_iload_n dX8_often_130 rfl rfl ?_
            refine V_imul dX8_often_131 ?_
            refine V_iconst (v := 2) dX8_often_132 (by decide) ?_
            refine V_iadd dX8_often_133 ?_
            obtain ⟨hb, h⟩ := h
            refine V_iald dX8_often_134 (hS.n 63 rfl) (hS.k 63 9 rfl) (by rw [(hS.z 63 16 rfl)]; exact hb) ?_
            refine V_iload_n dX8_often_135 rfl rfl ?_
            refine V_aload_n dX8_often_136 rfl rfl ?_
            refine V_getr dX8_often_137 fl_RX8_13 (hS.n 51 rfl) (hS.k 51 8 rfl) rfl (hS.r 51 3 53 rfl) ?_
            refine V_aload_n dX8_often_140 rfl rfl ?_
            refine V_getr dX8_often_141 fl_RX8_48 (hS.n 51 rfl) (hS.k 51 8 rfl) rfl (hS.r 51 17 63 rfl) ?_
            refine V_iconst (v := 4) dX8_often_144 (by decide) ?_
            refine V_iload_n dX8_often_145 rfl rfl ?_
            refine V_imul dX8_often_146 ?_
            refine V_iconst (v := 2) dX8_often_147 (by decide) ?_
            refine V_iadd dX8_often_148 ?_
            obtain ⟨hb, h⟩ := h
            refine V_iald dX8_often_149 (hS.n 63 rfl) (hS.k 63 9 rfl) (by rw [(hS.z 63 16 rfl)]; exact hb) ?_
            obtain ⟨hb, h⟩ := h
            refine V_iald dX8_often_150 (hS.n 53 rfl) (hS.k 53 9 rfl) (by rw [(hS.z 53 4 rfl)]; exact hb) ?_
            refine V_callVi (st := [.int r11]) [.int (I8 63 (((4 * a1) + 2)).toNatClampNeg), .int a3, .int (I8 53 ((I8 63 (((4 * a1) + 2)).toNatClampNeg)).toNatClampNeg)] dX8_often_151 ok_mX8_alike rfl ml_RX8_275 in_mX8_alike se_mX8_alike (hS.n 51 rfl) (hS.k 51 8 rfl) (by decide) rfl (Nat.le_of_ble_eq_true rfl) (by decide) (by decide) (by decide) (s_mX8_alike hS h) (fun r12 I9 J9 h => ?_)
            obtain ⟨rfl, rfl, h⟩ := h
            refine V_imul dX8_often_154 ?_
            exact V_iret dX8_often_155 rfl (by decide) (by decide) ⟨_, rfl, rfl, rfl, h⟩
          · replace h := h.2 hc
            refine V_iconst (v := 0) dX8_often_96 (by decide) ?_
            exact V_iret dX8_often_97 rfl (by decide) (by decide) ⟨_, rfl, rfl, rfl, h⟩
      · first | exact absurd hc (by decide) | exact absurd (by decide) hc
    · replace h := h.2 hc
      refine V_iload_n dX8_often_37 rfl rfl ?_
      refine V_iconst (v := 0) dX8_often_38 (by decide) ?_
      refine V_aload_n dX8_often_39 rfl rfl ?_
      refine V_getr dX8_often_40 fl_RX8_13 (hS.n 51 rfl) (hS.k 51 8 rfl) rfl (hS.r 51 3 53 rfl) ?_
      refine V_aload_n dX8_often_43 rfl rfl ?_
      refine V_getr dX8_often_44 fl_RX8_48 (hS.n 51 rfl) (hS.k 51 8 rfl) rfl (hS.r 51 17 63 rfl) ?_
      refine V_iconst (v := 4) dX8_often_47 (by decide) ?_
      refine V_iload_n dX8_often_48 rfl rfl ?_
      refine V_imul dX8_often_49 ?_
      refine V_iconst (v := 2) dX8_often_50 (by decide) ?_
      refine V_iadd dX8_often_51 ?_
      obtain ⟨hb, h⟩ := h
      refine V_iald dX8_often_52 (hS.n 63 rfl) (hS.k 63 9 rfl) (by rw [(hS.z 63 16 rfl)]; exact hb) ?_
      obtain ⟨hb, h⟩ := h
      refine V_iald dX8_often_53 (hS.n 53 rfl) (hS.k 53 9 rfl) (by rw [(hS.z 53 4 rfl)]; exact hb) ?_
      refine V_iconst (v := 1) dX8_often_54 (by decide) ?_
      refine V_isub dX8_often_55 ?_
      refine V_callSi (st := []) [.int a3, .int 0, .int ((I 53 ((I 63 (((4 * a1) + 2)).toNatClampNeg)).toNatClampNeg) - 1)] dX8_often_56 ok_mX8_in rfl ml_RX8_104 st_mX8_in (Nat.le_of_ble_eq_true rfl) (by decide) (by decide) (by decide) (s_mX8_in hS h) (fun r13 I9 J9 h => ?_)
      obtain ⟨rfl, rfl, h⟩ := h
      refine V_if_eq 66 dX8_often_59 rfl (fun hc => ?_) (fun hc => ?_)
      · replace h := h.1 hc
        refine V_iconst (v := 0) dX8_often_66 (by decide) ?_
        refine V_istore (lo2 := [(4, .int 0), (0, .ref 51), (1, .int a1), (2, .int a2), (3, .int a3)]) dX8_often_67 (by decide) rfl ?_
        refine V_aload_n dX8_often_69 rfl rfl ?_
        refine V_iload dX8_often_70 rfl ?_
        refine V_if_eq 79 dX8_often_72 rfl (fun hc => ?_) (fun hc => ?_)
        · refine V_iconst (v := 1) dX8_often_79 (by decide) ?_
          refine V_callVi (st := []) [.int 1] dX8_often_80 ok_mX8_goesWell rfl ml_RX8_112 in_mX8_goesWell se_mX8_goesWell (hS.n 51 rfl) (hS.k 51 8 rfl) (by decide) rfl (Nat.le_of_ble_eq_true rfl) (by decide) (by decide) (by decide) (s_mX8_goesWell hS h) (fun r15 I14 J9 h => ?_)
          obtain ⟨rfl, h⟩ := h
          refine V_if_eq 96 dX8_often_83 rfl (fun hc => ?_) (fun hc => ?_)
          · replace h := h.1 hc
            refine V_iconst (v := 0) dX8_often_96 (by decide) ?_
            exact V_iret dX8_often_97 rfl (by decide) (by decide) ⟨_, rfl, rfl, rfl, h⟩
          · replace h := h.2 hc
            refine V_aload_n dX8_often_86 rfl rfl ?_
            refine V_iload_n dX8_often_87 rfl rfl ?_
            refine V_iload_n dX8_often_88 rfl rfl ?_
            refine V_iload_n dX8_often_89 rfl rfl ?_
            refine V_callVi (st := []) [.int a1, .int a2, .int a3] dX8_often_90 ok_mX8_meet rfl ml_RX8_272 in_mX8_meet se_mX8_meet (hS.n 51 rfl) (hS.k 51 8 rfl) (by decide) rfl (Nat.le_of_ble_eq_true rfl) (by decide) (by decide) (by decide) (s_mX8_meet hS h) (fun r16 I9 J9 h => ?_)
            obtain ⟨rfl, rfl, h⟩ := h
            refine V_if_ne 98 dX8_often_93 rfl (fun hc => ?_) (fun hc => ?_)
            · replace h := h.1 hc
              refine V_aload_n dX8_often_98 rfl rfl ?_
              refine V_aload_n dX8_often_99 rfl rfl ?_
              refine V_getr dX8_often_100 fl_RX8_48 (hS.n 51 rfl) (hS.k 51 8 rfl) rfl (hS.r 51 17 63 rfl) ?_
              refine V_iconst (v := 4) dX8_often_103 (by decide) ?_
              refine V_iload_n dX8_often_104 rfl rfl ?_
              refine V_imul dX8_often_105 ?_
              obtain ⟨hb, h⟩ := h
              refine V_iald dX8_often_106 (hS.n 63 rfl) (hS.k 63 9 rfl) (by rw [(hS.z 63 16 rfl)]; exact hb) ?_
              refine V_iload_n dX8_often_107 rfl rfl ?_
              refine V_aload_n dX8_often_108 rfl rfl ?_
              refine V_getr dX8_often_109 fl_RX8_13 (hS.n 51 rfl) (hS.k 51 8 rfl) rfl (hS.r 51 3 53 rfl) ?_
              refine V_aload_n dX8_often_112 rfl rfl ?_
              refine V_getr dX8_often_113 fl_RX8_48 (hS.n 51 rfl) (hS.k 51 8 rfl) rfl (hS.r 51 17 63 rfl) ?_
              refine V_iconst (v := 4) dX8_often_116 (by decide) ?_
              refine V_iload_n dX8_often_117 rfl rfl ?_
              refine V_imul dX8_often_118 ?_
              obtain ⟨hb, h⟩ := h
              refine V_iald dX8_often_119 (hS.n 63 rfl) (hS.k 63 9 rfl) (by rw [(hS.z 63 16 rfl)]; exact hb) ?_
              obtain ⟨hb, h⟩ := h
              refine V_iald dX8_often_120 (hS.n 53 rfl) (hS.k 53 9 rfl) (by rw [(hS.z 53 4 rfl)]; exact hb) ?_
              refine V_callVi (st := []) [.int (I14 63 ((4 * a1)).toNatClampNeg), .int a2, .int (I14 53 ((I14 63 ((4 * a1)).toNatClampNeg)).toNatClampNeg)] dX8_often_121 ok_mX8_alike rfl ml_RX8_275 in_mX8_alike se_mX8_alike (hS.n 51 rfl) (hS.k 51 8 rfl) (by decide) rfl (Nat.le_of_ble_eq_true rfl) (by decide) (by decide) (by decide) (s_mX8_alike hS h) (fun r17 I9 J9 h => ?_)
              obtain ⟨rfl, rfl, h⟩ := h
              refine V_aload_n dX8_often_124 rfl rfl ?_
              refine V_aload_n dX8_often_125 rfl rfl ?_
              refine V_getr dX8_often_126 fl_RX8_48 (hS.n 51 rfl) (hS.k 51 8 rfl) rfl (hS.r 51 17 63 rfl) ?_
              refine V_iconst (v := 4) dX8_often_129 (by decide) ?_
              refine V_iload_n dX8_often_130 rfl rfl ?_
              refine V_imul dX8_often_131 ?_
              refine V_iconst (v := 2) dX8_often_132 (by decide) ?_
              refine V_iadd dX8_often_133 ?_
              obtain ⟨hb, h⟩ := h
              refine V_iald dX8_often_134 (hS.n 63 rfl) (hS.k 63 9 rfl) (by rw [(hS.z 63 16 rfl)]; exact hb) ?_
              refine V_iload_n dX8_often_135 rfl rfl ?_
              refine V_aload_n dX8_often_136 rfl rfl ?_
              refine V_getr dX8_often_137 fl_RX8_13 (hS.n 51 rfl) (hS.k 51 8 rfl) rfl (hS.r 51 3 53 rfl) ?_
              refine V_aload_n dX8_often_140 rfl rfl ?_
              refine V_getr dX8_often_141 fl_RX8_48 (hS.n 51 rfl) (hS.k 51 8 rfl) rfl (hS.r 51 17 63 rfl) ?_
              refine V_iconst (v := 4) dX8_often_144 (by decide) ?_
              refine V_iload_n dX8_often_145 rfl rfl ?_
              refine V_imul dX8_often_146 ?_
              refine V_iconst (v := 2) dX8_often_147 (by decide) ?_
              refine V_iadd dX8_often_148 ?_
              obtain ⟨hb, h⟩ := h
              refine V_iald dX8_often_149 (hS.n 63 rfl) (hS.k 63 9 rfl) (by rw [(hS.z 63 16 rfl)]; exact hb) ?_
              obtain ⟨hb, h⟩ := h
              refine V_iald dX8_often_150 (hS.n 53 rfl) (hS.k 53 9 rfl) (by rw [(hS.z 53 4 rfl)]; exact hb) ?_
              refine V_callVi (st := [.int r17]) [.int (I14 63 (((4 * a1) + 2)).toNatClampNeg), .int a3, .int (I14 53 ((I14 63 (((4 * a1) + 2)).toNatClampNeg)).toNatClampNeg)] dX8_often_151 ok_mX8_alike rfl ml_RX8_275 in_mX8_alike se_mX8_alike (hS.n 51 rfl) (hS.k 51 8 rfl) (by decide) rfl (Nat.le_of_ble_eq_true rfl) (by decide) (by decide) (by decide) (s_mX8_alike hS h) (fun r18 I9 J9 h => ?_)
              obtain ⟨rfl, rfl, h⟩ := h
              refine V_imul dX8_often_154 ?_
              exact V_iret dX8_often_155 rfl (by decide) (by decide) ⟨_, rfl, rfl, rfl, h⟩
            · replace h := h.2 hc
              refine V_iconst (v := 0) dX8_often_96 (by decide) ?_
              exact V_iret dX8_often_97 rfl (by decide) (by decide) ⟨_, rfl, rfl, rfl, h⟩
        · first | exact absurd hc (by decide) | exact absurd (by decide) hc
      · replace h := h.2 hc
        refine V_iconst (v := 1) dX8_often_62 (by decide) ?_
        refine V_goto 67 dX8_often_63 rfl ?_
        refine V_istore (lo2 := [(4, .int 1), (0, .ref 51), (1, .int a1), (2, .int a2), (3, .int a3)]) dX8_often_67 (by decide) rfl ?_
        refine V_aload_n dX8_often_69 rfl rfl ?_
        refine V_iload dX8_often_70 rfl ?_
        refine V_if_eq 79 dX8_often_72 rfl (fun hc => ?_) (fun hc => ?_)
        · first | exact absurd hc (by decide) | exact absurd (by decide) hc
        · refine V_iconst (v := 0) dX8_often_75 (by decide) ?_
          refine V_goto 80 dX8_often_76 rfl ?_
          refine V_callVi (st := []) [.int 0] dX8_often_80 ok_mX8_goesWell rfl ml_RX8_112 in_mX8_goesWell se_mX8_goesWell (hS.n 51 rfl) (hS.k 51 8 rfl) (by decide) rfl (Nat.le_of_ble_eq_true rfl) (by decide) (by decide) (by decide) (s_mX8_goesWell hS h) (fun r20 I19 J9 h => ?_)
          obtain ⟨rfl, h⟩ := h
          refine V_if_eq 96 dX8_often_83 rfl (fun hc => ?_) (fun hc => ?_)
          · replace h := h.1 hc
            refine V_iconst (v := 0) dX8_often_96 (by decide) ?_
            exact V_iret dX8_often_97 rfl (by decide) (by decide) ⟨_, rfl, rfl, rfl, h⟩
          · replace h := h.2 hc
            refine V_aload_n dX8_often_86 rfl rfl ?_
            refine V_iload_n dX8_often_87 rfl rfl ?_
            refine V_iload_n dX8_often_88 rfl rfl ?_
            refine V_iload_n dX8_often_89 rfl rfl ?_
            refine V_callVi (st := []) [.int a1, .int a2, .int a3] dX8_often_90 ok_mX8_meet rfl ml_RX8_272 in_mX8_meet se_mX8_meet (hS.n 51 rfl) (hS.k 51 8 rfl) (by decide) rfl (Nat.le_of_ble_eq_true rfl) (by decide) (by decide) (by decide) (s_mX8_meet hS h) (fun r21 I9 J9 h => ?_)
            obtain ⟨rfl, rfl, h⟩ := h
            refine V_if_ne 98 dX8_often_93 rfl (fun hc => ?_) (fun hc => ?_)
            · replace h := h.1 hc
              refine V_aload_n dX8_often_98 rfl rfl ?_
              refine V_aload_n dX8_often_99 rfl rfl ?_
              refine V_getr dX8_often_100 fl_RX8_48 (hS.n 51 rfl) (hS.k 51 8 rfl) rfl (hS.r 51 17 63 rfl) ?_
              refine V_iconst (v := 4) dX8_often_103 (by decide) ?_
              refine V_iload_n dX8_often_104 rfl rfl ?_
              refine V_imul dX8_often_105 ?_
              obtain ⟨hb, h⟩ := h
              refine V_iald dX8_often_106 (hS.n 63 rfl) (hS.k 63 9 rfl) (by rw [(hS.z 63 16 rfl)]; exact hb) ?_
              refine V_iload_n dX8_often_107 rfl rfl ?_
              refine V_aload_n dX8_often_108 rfl rfl ?_
              refine V_getr dX8_often_109 fl_RX8_13 (hS.n 51 rfl) (hS.k 51 8 rfl) rfl (hS.r 51 3 53 rfl) ?_
              refine V_aload_n dX8_often_112 rfl rfl ?_
              refine V_getr dX8_often_113 fl_RX8_48 (hS.n 51 rfl) (hS.k 51 8 rfl) rfl (hS.r 51 17 63 rfl) ?_
              refine V_iconst (v := 4) dX8_often_116 (by decide) ?_
              refine V_iload_n dX8_often_117 rfl rfl ?_
              refine V_imul dX8_often_118 ?_
              obtain ⟨hb, h⟩ := h
              refine V_iald dX8_often_119 (hS.n 63 rfl) (hS.k 63 9 rfl) (by rw [(hS.z 63 16 rfl)]; exact hb) ?_
              obtain ⟨hb, h⟩ := h
              refine V_iald dX8_often_120 (hS.n 53 rfl) (hS.k 53 9 rfl) (by rw [(hS.z 53 4 rfl)]; exact hb) ?_
              refine V_callVi (st := []) [.int (I19 63 ((4 * a1)).toNatClampNeg), .int a2, .int (I19 53 ((I19 63 ((4 * a1)).toNatClampNeg)).toNatClampNeg)] dX8_often_121 ok_mX8_alike rfl ml_RX8_275 in_mX8_alike se_mX8_alike (hS.n 51 rfl) (hS.k 51 8 rfl) (by decide) rfl (Nat.le_of_ble_eq_true rfl) (by decide) (by decide) (by decide) (s_mX8_alike hS h) (fun r22 I9 J9 h => ?_)
              obtain ⟨rfl, rfl, h⟩ := h
              refine V_aload_n dX8_often_124 rfl rfl ?_
              refine V_aload_n dX8_often_125 rfl rfl ?_
              refine V_getr dX8_often_126 fl_RX8_48 (hS.n 51 rfl) (hS.k 51 8 rfl) rfl (hS.r 51 17 63 rfl) ?_
              refine V_iconst (v := 4) dX8_often_129 (by decide) ?_
              refine V_iload_n dX8_often_130 rfl rfl ?_
              refine V_imul dX8_often_131 ?_
              refine V_iconst (v := 2) dX8_often_132 (by decide) ?_
              refine V_iadd dX8_often_133 ?_
              obtain ⟨hb, h⟩ := h
              refine V_iald dX8_often_134 (hS.n 63 rfl) (hS.k 63 9 rfl) (by rw [(hS.z 63 16 rfl)]; exact hb) ?_
              refine V_iload_n dX8_often_135 rfl rfl ?_
              refine V_aload_n dX8_often_136 rfl rfl ?_
              refine V_getr dX8_often_137 fl_RX8_13 (hS.n 51 rfl) (hS.k 51 8 rfl) rfl (hS.r 51 3 53 rfl) ?_
              refine V_aload_n dX8_often_140 rfl rfl ?_
              refine V_getr dX8_often_141 fl_RX8_48 (hS.n 51 rfl) (hS.k 51 8 rfl) rfl (hS.r 51 17 63 rfl) ?_
              refine V_iconst (v := 4) dX8_often_144 (by decide) ?_
              refine V_iload_n dX8_often_145 rfl rfl ?_
              refine V_imul dX8_often_146 ?_
              refine V_iconst (v := 2) dX8_often_147 (by decide) ?_
              refine V_iadd dX8_often_148 ?_
              obtain ⟨hb, h⟩ := h
              refine V_iald dX8_often_149 (hS.n 63 rfl) (hS.k 63 9 rfl) (by rw [(hS.z 63 16 rfl)]; exact hb) ?_
              obtain ⟨hb, h⟩ := h
              refine V_iald dX8_often_150 (hS.n 53 rfl) (hS.k 53 9 rfl) (by rw [(hS.z 53 4 rfl)]; exact hb) ?_
              refine V_callVi (st := [.int r22]) [.int (I19 63 (((4 * a1) + 2)).toNatClampNeg), .int a3, .int (I19 53 ((I19 63 (((4 * a1) + 2)).toNatClampNeg)).toNatClampNeg)] dX8_often_151 ok_mX8_alike rfl ml_RX8_275 in_mX8_alike se_mX8_alike (hS.n 51 rfl) (hS.k 51 8 rfl) (by decide) rfl (Nat.le_of_ble_eq_true rfl) (by decide) (by decide) (by decide) (s_mX8_alike hS h) (fun r23 I9 J9 h => ?_)
              obtain ⟨rfl, rfl, h⟩ := h
              refine V_imul dX8_often_154 ?_
              exact V_iret dX8_often_155 rfl (by decide) (by decide) ⟨_, rfl, rfl, rfl, h⟩
            · replace h := h.2 hc
              refine V_iconst (v := 0) dX8_often_96 (by decide) ?_
              exact V_iret dX8_often_97 rfl (by decide) (by decide) ⟨_, rfl, rfl, rfl, h⟩
def wX8_isKnown (a1 : Int32) (a2 : Int32) (I : QI) (post : Int32 → Prop) : Prop := (wX8_at a1 a2 0 I (fun r1 => ((r1 = (-1000) → post 0) ∧ (¬ r1 = (-1000) → (wX8_at a1 a2 1 I (fun r2 => ((r2 = (-1000) → post 0) ∧ (¬ r2 = (-1000) → post 1))))))))
set_option maxRecDepth 100000 in
set_option maxHeartbeats 4000000 in
theorem s_mX8_isKnown {X : QX} {S : QS} {a1 : Int32} {a2 : Int32} {I : QI} {J : QJ} {post : Int32 → Prop} (hS : Sh S) (h : wX8_isKnown a1 a2 I post) : CX X mX8_isKnown 1 0 0 [.ref 51, .int a1, .int a2] S I J (q_Pi S (fun r I2 J2 => I = I2 ∧ J = J2 ∧ post r)) := by
  refine CX.of (lo := [(0, .ref 51), (1, .int a1), (2, .int a2)]) ok_mX8_isKnown rfl (Nat.le_of_ble_eq_true rfl) rfl ?_
  replace h : (wX8_at a1 a2 0 I (fun r1 => ((r1 = (-1000) → post 0) ∧ (¬ r1 = (-1000) → (wX8_at a1 a2 1 I (fun r2 => ((r2 = (-1000) → post 0) ∧ (¬ r2 = (-1000) → post 1)))))))) := h
  refine V_aload_n dX8_isKnown_0 rfl rfl ?_
  refine V_iload_n dX8_isKnown_1 rfl rfl ?_
  refine V_iload_n dX8_isKnown_2 rfl rfl ?_
  refine V_iconst (v := 0) dX8_isKnown_3 (by decide) ?_
  refine V_callVi (st := []) [.int a1, .int a2, .int 0] dX8_isKnown_4 ok_mX8_at rfl ml_RX8_152 in_mX8_at se_mX8_at (hS.n 51 rfl) (hS.k 51 8 rfl) (by decide) rfl (Nat.le_of_ble_eq_true rfl) (by decide) (by decide) (by decide) (s_mX8_at hS h) (fun r1 I9 J9 h => ?_)
  obtain ⟨rfl, rfl, h⟩ := h
  refine V_sipush (v := (-1000)) dX8_isKnown_7 (by decide) ?_
  refine V_icmp_eq 30 dX8_isKnown_10 rfl (fun hc => ?_) (fun hc => ?_)
  · replace h := h.1 hc
    refine V_iconst (v := 0) dX8_isKnown_30 (by decide) ?_
    exact V_zret dX8_isKnown_31 rfl (by decide) (by decide) (by decide) ⟨_, rfl, rfl, rfl, rfl, h⟩
  · replace h := h.2 hc
    refine V_aload_n dX8_isKnown_13 rfl rfl ?_
    refine V_iload_n dX8_isKnown_14 rfl rfl ?_
    refine V_iload_n dX8_isKnown_15 rfl rfl ?_
    refine V_iconst (v := 1) dX8_isKnown_16 (by decide) ?_
    refine V_callVi (st := []) [.int a1, .int a2, .int 1] dX8_isKnown_17 ok_mX8_at rfl ml_RX8_152 in_mX8_at se_mX8_at (hS.n 51 rfl) (hS.k 51 8 rfl) (by decide) rfl (Nat.le_of_ble_eq_true rfl) (by decide) (by decide) (by decide) (s_mX8_at hS h) (fun r2 I9 J9 h => ?_)
    obtain ⟨rfl, rfl, h⟩ := h
    refine V_sipush (v := (-1000)) dX8_isKnown_20 (by decide) ?_
    refine V_icmp_eq 30 dX8_isKnown_23 rfl (fun hc => ?_) (fun hc => ?_)
    · replace h := h.1 hc
      refine V_iconst (v := 0) dX8_isKnown_30 (by decide) ?_
      exact V_zret dX8_isKnown_31 rfl (by decide) (by decide) (by decide) ⟨_, rfl, rfl, rfl, rfl, h⟩
    · replace h := h.2 hc
      refine V_iconst (v := 1) dX8_isKnown_26 (by decide) ?_
      refine V_goto 31 dX8_isKnown_27 rfl ?_
      exact V_zret dX8_isKnown_31 rfl (by decide) (by decide) (by decide) ⟨_, rfl, rfl, rfl, rfl, h⟩
def wX8_reached_68 (a1 : Int32) (a2 : Int32) (K136 : Int32 → Int32 → Int32 → QI → Prop) (post : Int32 → QI → Prop) : Nat → Int32 → Int32 → Int32 → Int32 → QI → Prop
  | 0, _, _, _, _, _ => False
  | n + 1, x3, x4, x5, x6, I => (vp_in a1 4 ∧ (((I 53 (a1).toNatClampNeg) ≤ x6 → (K136 x3 x4 x5 I)) ∧ (¬ (I 53 (a1).toNatClampNeg) ≤ x6 → ((¬ x5 = 0 → (∀ v3 : Int32, v3 = (x6 + 1) → (wX8_reached_68 a1 a2 K136 post n x3 x4 1 v3 I))) ∧ (x5 = 0 → (vp_in x6 10 ∧ (((I 78 (x6).toNatClampNeg) = 0 → (∀ v4 : Int32, v4 = (x6 + 1) → (wX8_reached_68 a1 a2 K136 post n x3 x4 0 v4 I))) ∧ (¬ (I 78 (x6).toNatClampNeg) = 0 → (wX8_isKnown a1 x4 I (fun r5 => ((r5 = 0 → (∀ v6 : Int32, v6 = (x6 + 1) → (wX8_reached_68 a1 a2 K136 post n x3 x4 0 v6 I))) ∧ (¬ r5 = 0 → (wX8_at a1 x6 1 I (fun r7 => (wX8_at a1 x4 0 I (fun r8 => ((¬ r7 = r8 → (∀ v9 : Int32, v9 = (x6 + 1) → (wX8_reached_68 a1 a2 K136 post n x3 x4 0 v9 I))) ∧ (r7 = r8 → (∀ v10 : Int32, v10 = (x6 + 1) → (wX8_reached_68 a1 a2 K136 post n x3 x4 1 v10 I))))))))))))))))))))
set_option maxRecDepth 100000 in
set_option maxHeartbeats 4000000 in
theorem swX8_reached_68 {X : QX} {S : QS} {a1 : Int32} {a2 : Int32} {J : QJ} {K136 : Int32 → Int32 → Int32 → QI → Prop} {post : Int32 → QI → Prop} (hS : Sh S) (hK136 : ∀ (z3 : Int32) (z4 : Int32) (z5 : Int32) (I : QI), K136 z3 z4 z5 I → V X mX8_reached 2 0 0 (q_Pi S (fun r I2 J2 => J = J2 ∧ post r I2)) 136 [(0, .ref 51), (1, .int a1), (2, .int a2), (3, .int z3), (4, .int z4), (5, .int z5)] [] S I J 0 0) : ∀ (f : Nat) (x3 : Int32) (x4 : Int32) (x5 : Int32) (x6 : Int32) (I : QI), wX8_reached_68 a1 a2 K136 post f x3 x4 x5 x6 I → V X mX8_reached 2 0 0 (q_Pi S (fun r I2 J2 => J = J2 ∧ post r I2)) 68 [(0, .ref 51), (1, .int a1), (2, .int a2), (3, .int x3), (4, .int x4), (5, .int x5), (6, .int x6)] [] S I J 0 0 := by
  intro f
  induction f with
  | zero => intro x3 x4 x5 x6 I h; exact h.elim
  | succ n ih =>
    intro x3 x4 x5 x6 I h
    replace h : (vp_in a1 4 ∧ (((I 53 (a1).toNatClampNeg) ≤ x6 → (K136 x3 x4 x5 I)) ∧ (¬ (I 53 (a1).toNatClampNeg) ≤ x6 → ((¬ x5 = 0 → (∀ v3 : Int32, v3 = (x6 + 1) → (wX8_reached_68 a1 a2 K136 post n x3 x4 1 v3 I))) ∧ (x5 = 0 → (vp_in x6 10 ∧ (((I 78 (x6).toNatClampNeg) = 0 → (∀ v4 : Int32, v4 = (x6 + 1) → (wX8_reached_68 a1 a2 K136 post n x3 x4 0 v4 I))) ∧ (¬ (I 78 (x6).toNatClampNeg) = 0 → (wX8_isKnown a1 x4 I (fun r5 => ((r5 = 0 → (∀ v6 : Int32, v6 = (x6 + 1) → (wX8_reached_68 a1 a2 K136 post n x3 x4 0 v6 I))) ∧ (¬ r5 = 0 → (wX8_at a1 x6 1 I (fun r7 => (wX8_at a1 x4 0 I (fun r8 => ((¬ r7 = r8 → (∀ v9 : Int32, v9 = (x6 + 1) → (wX8_reached_68 a1 a2 K136 post n x3 x4 0 v9 I))) ∧ (r7 = r8 → (∀ v10 : Int32, v10 = (x6 + 1) → (wX8_reached_68 a1 a2 K136 post n x3 x4 1 v10 I)))))))))))))))))))) := h
    refine V_iload dX8_reached_68 rfl ?_
    refine V_aload_n dX8_reached_70 rfl rfl ?_
    refine V_getr dX8_reached_71 fl_RX8_13 (hS.n 51 rfl) (hS.k 51 8 rfl) rfl (hS.r 51 3 53 rfl) ?_
    refine V_iload_n dX8_reached_74 rfl rfl ?_
    obtain ⟨hb, h⟩ := h
    refine V_iald dX8_reached_75 (hS.n 53 rfl) (hS.k 53 9 rfl) (by rw [(hS.z 53 4 rfl)]; exact hb) ?_
    refine V_icmp_ge 136 dX8_reached_76 rfl (fun hc => ?_) (fun hc => ?_)
    · replace h := h.1 hc
      refine V_sub (lo2 := [(0, .ref 51), (1, .int a1), (2, .int a2), (3, .int x3), (4, .int x4), (5, .int x5)]) [0, 1, 2, 3, 4, 5] rfl ?_
      exact hK136 _ _ _ _ h
    · replace h := h.2 hc
      refine V_iload dX8_reached_79 rfl ?_
      refine V_if_ne 123 dX8_reached_81 rfl (fun hc => ?_) (fun hc => ?_)
      · replace h := h.1 hc
        refine V_iconst (v := 1) dX8_reached_123 (by decide) ?_
        refine V_goto 128 dX8_reached_124 rfl ?_
        refine V_istore (lo2 := [(5, .int 1), (0, .ref 51), (1, .int a1), (2, .int a2), (3, .int x3), (4, .int x4), (6, .int x6)]) dX8_reached_128 (by decide) rfl ?_
        obtain ⟨v3, e_v3⟩ : ∃ z : Int32, z = (x6 + 1) := ⟨_, rfl⟩
        replace h := h v3 e_v3
        refine V_iinc (lo2 := [(6, .int v3), (5, .int 1), (0, .ref 51), (1, .int a1), (2, .int a2), (3, .int x3), (4, .int x4)]) 6 dX8_reached_130 rfl (v := v3) (by rw [e_v3]; first | done | rfl) (by decide) rfl ?_
        refine V_goto 68 dX8_reached_133 rfl ?_
        refine V_sub (lo2 := [(0, .ref 51), (1, .int a1), (2, .int a2), (3, .int x3), (4, .int x4), (5, .int 1), (6, .int v3)]) [2, 3, 4, 5, 6, 1, 0] rfl ?_
        exact ih _ _ _ _ _ h
      · replace h := h.2 hc
        refine V_aload_n dX8_reached_84 rfl rfl ?_
        refine V_getr dX8_reached_85 fl_RX8_95 (hS.n 51 rfl) (hS.k 51 8 rfl) rfl (hS.r 51 35 78 rfl) ?_
        refine V_iload dX8_reached_88 rfl ?_
        obtain ⟨hb, h⟩ := h
        refine V_zald dX8_reached_90 (hS.n 78 rfl) (hS.k 78 11 rfl) (by rw [(hS.z 78 10 rfl)]; exact hb) ?_
        refine V_if_eq 127 dX8_reached_91 rfl (fun hc => ?_) (fun hc => ?_)
        · replace h := h.1 hc
          refine V_iconst (v := 0) dX8_reached_127 (by decide) ?_
          refine V_istore (lo2 := [(5, .int 0), (0, .ref 51), (1, .int a1), (2, .int a2), (3, .int x3), (4, .int x4), (6, .int x6)]) dX8_reached_128 (by decide) rfl ?_
          obtain ⟨v4, e_v4⟩ : ∃ z : Int32, z = (x6 + 1) := ⟨_, rfl⟩
          replace h := h v4 e_v4
          refine V_iinc (lo2 := [(6, .int v4), (5, .int 0), (0, .ref 51), (1, .int a1), (2, .int a2), (3, .int x3), (4, .int x4)]) 6 dX8_reached_130 rfl (v := v4) (by rw [e_v4]; first | done | rfl) (by decide) rfl ?_
          refine V_goto 68 dX8_reached_133 rfl ?_
          refine V_sub (lo2 := [(0, .ref 51), (1, .int a1), (2, .int a2), (3, .int x3), (4, .int x4), (5, .int 0), (6, .int v4)]) [2, 3, 4, 5, 6, 1, 0] rfl ?_
          exact ih _ _ _ _ _ h
        · replace h := h.2 hc
          refine V_aload_n dX8_reached_94 rfl rfl ?_
          refine V_iload_n dX8_reached_95 rfl rfl ?_
          refine V_iload dX8_reached_96 rfl ?_
          refine V_callVi (st := []) [.int a1, .int x4] dX8_reached_98 ok_mX8_isKnown rfl ml_RX8_278 in_mX8_isKnown se_mX8_isKnown (hS.n 51 rfl) (hS.k 51 8 rfl) (by decide) rfl (Nat.le_of_ble_eq_true rfl) (by decide) (by decide) (by decide) (s_mX8_isKnown hS h) (fun r5 I9 J9 h => ?_)
          obtain ⟨rfl, rfl, h⟩ := h
          refine V_if_eq 127 dX8_reached_101 rfl (fun hc => ?_) (fun hc => ?_)
          · replace h := h.1 hc
            refine V_iconst (v := 0) dX8_reached_127 (by decide) ?_
            refine V_istore (lo2 := [(5, .int 0), (0, .ref 51), (1, .int a1), (2, .int a2), (3, .int x3), (4, .int x4), (6, .int x6)]) dX8_reached_128 (by decide) rfl ?_
            obtain ⟨v6, e_v6⟩ : ∃ z : Int32, z = (x6 + 1) := ⟨_, rfl⟩
            replace h := h v6 e_v6
            refine V_iinc (lo2 := [(6, .int v6), (5, .int 0), (0, .ref 51), (1, .int a1), (2, .int a2), (3, .int x3), (4, .int x4)]) 6 dX8_reached_130 rfl (v := v6) (by rw [e_v6]; first | done | rfl) (by decide) rfl ?_
            refine V_goto 68 dX8_reached_133 rfl ?_
            refine V_sub (lo2 := [(0, .ref 51), (1, .int a1), (2, .int a2), (3, .int x3), (4, .int x4), (5, .int 0), (6, .int v6)]) [2, 3, 4, 5, 6, 1, 0] rfl ?_
            exact ih _ _ _ _ _ h
          · replace h := h.2 hc
            refine V_aload_n dX8_reached_104 rfl rfl ?_
            refine V_iload_n dX8_reached_105 rfl rfl ?_
            refine V_iload dX8_reached_106 rfl ?_
            refine V_iconst (v := 1) dX8_reached_108 (by decide) ?_
            refine V_callVi (st := []) [.int a1, .int x6, .int 1] dX8_reached_109 ok_mX8_at rfl ml_RX8_152 in_mX8_at se_mX8_at (hS.n 51 rfl) (hS.k 51 8 rfl) (by decide) rfl (Nat.le_of_ble_eq_true rfl) (by decide) (by decide) (by decide) (s_mX8_at hS h) (fun r7 I9 J9 h => ?_)
            obtain ⟨rfl, rfl, h⟩ := h
            refine V_aload_n dX8_reached_112 rfl rfl ?_
            refine V_iload_n dX8_reached_113 rfl rfl ?_
            refine V_iload dX8_reached_114 rfl ?_
            refine V_iconst (v := 0) dX8_reached_116 (by decide) ?_
            refine V_callVi (st := [.int r7]) [.int a1, .int x4, .int 0] dX8_reached_117 ok_mX8_at rfl ml_RX8_152 in_mX8_at se_mX8_at (hS.n 51 rfl) (hS.k 51 8 rfl) (by decide) rfl (Nat.le_of_ble_eq_true rfl) (by decide) (by decide) (by decide) (s_mX8_at hS h) (fun r8 I9 J9 h => ?_)
            obtain ⟨rfl, rfl, h⟩ := h
            refine V_icmp_ne 127 dX8_reached_120 rfl (fun hc => ?_) (fun hc => ?_)
            · replace h := h.1 hc
              refine V_iconst (v := 0) dX8_reached_127 (by decide) ?_
              refine V_istore (lo2 := [(5, .int 0), (0, .ref 51), (1, .int a1), (2, .int a2), (3, .int x3), (4, .int x4), (6, .int x6)]) dX8_reached_128 (by decide) rfl ?_
              obtain ⟨v9, e_v9⟩ : ∃ z : Int32, z = (x6 + 1) := ⟨_, rfl⟩
              replace h := h v9 e_v9
              refine V_iinc (lo2 := [(6, .int v9), (5, .int 0), (0, .ref 51), (1, .int a1), (2, .int a2), (3, .int x3), (4, .int x4)]) 6 dX8_reached_130 rfl (v := v9) (by rw [e_v9]; first | done | rfl) (by decide) rfl ?_
              refine V_goto 68 dX8_reached_133 rfl ?_
              refine V_sub (lo2 := [(0, .ref 51), (1, .int a1), (2, .int a2), (3, .int x3), (4, .int x4), (5, .int 0), (6, .int v9)]) [2, 3, 4, 5, 6, 1, 0] rfl ?_
              exact ih _ _ _ _ _ h
            · replace h := h.2 hc
              refine V_iconst (v := 1) dX8_reached_123 (by decide) ?_
              refine V_goto 128 dX8_reached_124 rfl ?_
              refine V_istore (lo2 := [(5, .int 1), (0, .ref 51), (1, .int a1), (2, .int a2), (3, .int x3), (4, .int x4), (6, .int x6)]) dX8_reached_128 (by decide) rfl ?_
              obtain ⟨v10, e_v10⟩ : ∃ z : Int32, z = (x6 + 1) := ⟨_, rfl⟩
              replace h := h v10 e_v10
              refine V_iinc (lo2 := [(6, .int v10), (5, .int 1), (0, .ref 51), (1, .int a1), (2, .int a2), (3, .int x3), (4, .int x4)]) 6 dX8_reached_130 rfl (v := v10) (by rw [e_v10]; first | done | rfl) (by decide) rfl ?_
              refine V_goto 68 dX8_reached_133 rfl ?_
              refine V_sub (lo2 := [(0, .ref 51), (1, .int a1), (2, .int a2), (3, .int x3), (4, .int x4), (5, .int 1), (6, .int v10)]) [2, 3, 4, 5, 6, 1, 0] rfl ?_
              exact ih _ _ _ _ _ h
def wX8_reached_19 (a1 : Int32) (a2 : Int32) (K194 : Int32 → QI → Prop) (post : Int32 → QI → Prop) : Nat → Int32 → Int32 → QI → Prop
  | 0, _, _, _ => False
  | n + 1, x3, x4, I => (vp_in a1 4 ∧ (((I 53 (a1).toNatClampNeg) ≤ x4 → (K194 x3 I)) ∧ (¬ (I 53 (a1).toNatClampNeg) ≤ x4 → (wX8_isKnown a1 x4 I (fun r2 => ((r2 = 0 → (∃ f : Nat, wX8_reached_68 a1 a2 (fun u11 u12 u13 I14 => ((¬ u11 = 0 → (vp_in u12 10 ∧ ((¬ (I14 78 (u12).toNatClampNeg) = 0 → (vp_in u12 10 ∧ (∀ I15 : QI, I15 = q_u2 I14 78 (u12).toNatClampNeg 1 → (∀ v16 : Int32, v16 = (u12 + 1) → (wX8_reached_19 a1 a2 K194 post n 1 v16 I15))))) ∧ ((I14 78 (u12).toNatClampNeg) = 0 → ((u13 = 0 → (vp_in u12 10 ∧ (∀ I17 : QI, I17 = q_u2 I14 78 (u12).toNatClampNeg 0 → (∀ v18 : Int32, v18 = (u12 + 1) → (wX8_reached_19 a1 a2 K194 post n 1 v18 I17))))) ∧ (¬ u13 = 0 → (vp_in u12 10 ∧ (∀ I19 : QI, I19 = q_u2 I14 78 (u12).toNatClampNeg 1 → (∀ v20 : Int32, v20 = (u12 + 1) → (wX8_reached_19 a1 a2 K194 post n 1 v20 I19)))))))))) ∧ (u11 = 0 → ((u13 = 0 → (vp_in u12 10 ∧ ((¬ (I14 78 (u12).toNatClampNeg) = 0 → (vp_in u12 10 ∧ (∀ I21 : QI, I21 = q_u2 I14 78 (u12).toNatClampNeg 1 → (∀ v22 : Int32, v22 = (u12 + 1) → (wX8_reached_19 a1 a2 K194 post n 0 v22 I21))))) ∧ ((I14 78 (u12).toNatClampNeg) = 0 → ((u13 = 0 → (vp_in u12 10 ∧ (∀ I23 : QI, I23 = q_u2 I14 78 (u12).toNatClampNeg 0 → (∀ v24 : Int32, v24 = (u12 + 1) → (wX8_reached_19 a1 a2 K194 post n 0 v24 I23))))) ∧ (¬ u13 = 0 → (vp_in u12 10 ∧ (∀ I25 : QI, I25 = q_u2 I14 78 (u12).toNatClampNeg 1 → (∀ v26 : Int32, v26 = (u12 + 1) → (wX8_reached_19 a1 a2 K194 post n 0 v26 I25)))))))))) ∧ (¬ u13 = 0 → (vp_in u12 10 ∧ ((¬ (I14 78 (u12).toNatClampNeg) = 0 → (vp_in u12 10 ∧ ((¬ (I14 78 (u12).toNatClampNeg) = 0 → (vp_in u12 10 ∧ (∀ I27 : QI, I27 = q_u2 I14 78 (u12).toNatClampNeg 1 → (∀ v28 : Int32, v28 = (u12 + 1) → (wX8_reached_19 a1 a2 K194 post n 0 v28 I27))))) ∧ ((I14 78 (u12).toNatClampNeg) = 0 → ((u13 = 0 → (vp_in u12 10 ∧ (∀ I29 : QI, I29 = q_u2 I14 78 (u12).toNatClampNeg 0 → (∀ v30 : Int32, v30 = (u12 + 1) → (wX8_reached_19 a1 a2 K194 post n 0 v30 I29))))) ∧ (¬ u13 = 0 → (vp_in u12 10 ∧ (∀ I31 : QI, I31 = q_u2 I14 78 (u12).toNatClampNeg 1 → (∀ v32 : Int32, v32 = (u12 + 1) → (wX8_reached_19 a1 a2 K194 post n 0 v32 I31)))))))))) ∧ ((I14 78 (u12).toNatClampNeg) = 0 → (vp_in u12 10 ∧ ((¬ (I14 78 (u12).toNatClampNeg) = 0 → (vp_in u12 10 ∧ (∀ I33 : QI, I33 = q_u2 I14 78 (u12).toNatClampNeg 1 → (∀ v34 : Int32, v34 = (u12 + 1) → (wX8_reached_19 a1 a2 K194 post n 1 v34 I33))))) ∧ ((I14 78 (u12).toNatClampNeg) = 0 → ((u13 = 0 → (vp_in u12 10 ∧ (∀ I35 : QI, I35 = q_u2 I14 78 (u12).toNatClampNeg 0 → (∀ v36 : Int32, v36 = (u12 + 1) → (wX8_reached_19 a1 a2 K194 post n 1 v36 I35))))) ∧ (¬ u13 = 0 → (vp_in u12 10 ∧ (∀ I37 : QI, I37 = q_u2 I14 78 (u12).toNatClampNeg 1 → (∀ v38 : Int32, v38 = (u12 + 1) → (wX8_reached_19 a1 a2 K194 post n 1 v38 I37))))))))))))))))) post f x3 x4 0 0 I)) ∧ (¬ r2 = 0 → (wX8_at a1 x4 0 I (fun r39 => (wX8_at a1 a2 0 I (fun r40 => ((¬ r39 = r40 → (∃ f : Nat, wX8_reached_68 a1 a2 (fun u41 u42 u43 I44 => ((¬ u41 = 0 → (vp_in u42 10 ∧ ((¬ (I44 78 (u42).toNatClampNeg) = 0 → (vp_in u42 10 ∧ (∀ I45 : QI, I45 = q_u2 I44 78 (u42).toNatClampNeg 1 → (∀ v46 : Int32, v46 = (u42 + 1) → (wX8_reached_19 a1 a2 K194 post n 1 v46 I45))))) ∧ ((I44 78 (u42).toNatClampNeg) = 0 → ((u43 = 0 → (vp_in u42 10 ∧ (∀ I47 : QI, I47 = q_u2 I44 78 (u42).toNatClampNeg 0 → (∀ v48 : Int32, v48 = (u42 + 1) → (wX8_reached_19 a1 a2 K194 post n 1 v48 I47))))) ∧ (¬ u43 = 0 → (vp_in u42 10 ∧ (∀ I49 : QI, I49 = q_u2 I44 78 (u42).toNatClampNeg 1 → (∀ v50 : Int32, v50 = (u42 + 1) → (wX8_reached_19 a1 a2 K194 post n 1 v50 I49)))))))))) ∧ (u41 = 0 → ((u43 = 0 → (vp_in u42 10 ∧ ((¬ (I44 78 (u42).toNatClampNeg) = 0 → (vp_in u42 10 ∧ (∀ I51 : QI, I51 = q_u2 I44 78 (u42).toNatClampNeg 1 → (∀ v52 : Int32, v52 = (u42 + 1) → (wX8_reached_19 a1 a2 K194 post n 0 v52 I51))))) ∧ ((I44 78 (u42).toNatClampNeg) = 0 → ((u43 = 0 → (vp_in u42 10 ∧ (∀ I53 : QI, I53 = q_u2 I44 78 (u42).toNatClampNeg 0 → (∀ v54 : Int32, v54 = (u42 + 1) → (wX8_reached_19 a1 a2 K194 post n 0 v54 I53))))) ∧ (¬ u43 = 0 → (vp_in u42 10 ∧ (∀ I55 : QI, I55 = q_u2 I44 78 (u42).toNatClampNeg 1 → (∀ v56 : Int32, v56 = (u42 + 1) → (wX8_reached_19 a1 a2 K194 post n 0 v56 I55)))))))))) ∧ (¬ u43 = 0 → (vp_in u42 10 ∧ ((¬ (I44 78 (u42).toNatClampNeg) = 0 → (vp_in u42 10 ∧ ((¬ (I44 78 (u42).toNatClampNeg) = 0 → (vp_in u42 10 ∧ (∀ I57 : QI, I57 = q_u2 I44 78 (u42).toNatClampNeg 1 → (∀ v58 : Int32, v58 = (u42 + 1) → (wX8_reached_19 a1 a2 K194 post n 0 v58 I57))))) ∧ ((I44 78 (u42).toNatClampNeg) = 0 → ((u43 = 0 → (vp_in u42 10 ∧ (∀ I59 : QI, I59 = q_u2 I44 78 (u42).toNatClampNeg 0 → (∀ v60 : Int32, v60 = (u42 + 1) → (wX8_reached_19 a1 a2 K194 post n 0 v60 I59))))) ∧ (¬ u43 = 0 → (vp_in u42 10 ∧ (∀ I61 : QI, I61 = q_u2 I44 78 (u42).toNatClampNeg 1 → (∀ v62 : Int32, v62 = (u42 + 1) → (wX8_reached_19 a1 a2 K194 post n 0 v62 I61)))))))))) ∧ ((I44 78 (u42).toNatClampNeg) = 0 → (vp_in u42 10 ∧ ((¬ (I44 78 (u42).toNatClampNeg) = 0 → (vp_in u42 10 ∧ (∀ I63 : QI, I63 = q_u2 I44 78 (u42).toNatClampNeg 1 → (∀ v64 : Int32, v64 = (u42 + 1) → (wX8_reached_19 a1 a2 K194 post n 1 v64 I63))))) ∧ ((I44 78 (u42).toNatClampNeg) = 0 → ((u43 = 0 → (vp_in u42 10 ∧ (∀ I65 : QI, I65 = q_u2 I44 78 (u42).toNatClampNeg 0 → (∀ v66 : Int32, v66 = (u42 + 1) → (wX8_reached_19 a1 a2 K194 post n 1 v66 I65))))) ∧ (¬ u43 = 0 → (vp_in u42 10 ∧ (∀ I67 : QI, I67 = q_u2 I44 78 (u42).toNatClampNeg 1 → (∀ v68 : Int32, v68 = (u42 + 1) → (wX8_reached_19 a1 a2 K194 post n 1 v68 I67))))))))))))))))) post f x3 x4 0 0 I)) ∧ (r39 = r40 → (∃ f : Nat, wX8_reached_68 a1 a2 (fun u69 u70 u71 I72 => ((¬ u69 = 0 → (vp_in u70 10 ∧ ((¬ (I72 78 (u70).toNatClampNeg) = 0 → (vp_in u70 10 ∧ (∀ I73 : QI, I73 = q_u2 I72 78 (u70).toNatClampNeg 1 → (∀ v74 : Int32, v74 = (u70 + 1) → (wX8_reached_19 a1 a2 K194 post n 1 v74 I73))))) ∧ ((I72 78 (u70).toNatClampNeg) = 0 → ((u71 = 0 → (vp_in u70 10 ∧ (∀ I75 : QI, I75 = q_u2 I72 78 (u70).toNatClampNeg 0 → (∀ v76 : Int32, v76 = (u70 + 1) → (wX8_reached_19 a1 a2 K194 post n 1 v76 I75))))) ∧ (¬ u71 = 0 → (vp_in u70 10 ∧ (∀ I77 : QI, I77 = q_u2 I72 78 (u70).toNatClampNeg 1 → (∀ v78 : Int32, v78 = (u70 + 1) → (wX8_reached_19 a1 a2 K194 post n 1 v78 I77)))))))))) ∧ (u69 = 0 → ((u71 = 0 → (vp_in u70 10 ∧ ((¬ (I72 78 (u70).toNatClampNeg) = 0 → (vp_in u70 10 ∧ (∀ I79 : QI, I79 = q_u2 I72 78 (u70).toNatClampNeg 1 → (∀ v80 : Int32, v80 = (u70 + 1) → (wX8_reached_19 a1 a2 K194 post n 0 v80 I79))))) ∧ ((I72 78 (u70).toNatClampNeg) = 0 → ((u71 = 0 → (vp_in u70 10 ∧ (∀ I81 : QI, I81 = q_u2 I72 78 (u70).toNatClampNeg 0 → (∀ v82 : Int32, v82 = (u70 + 1) → (wX8_reached_19 a1 a2 K194 post n 0 v82 I81))))) ∧ (¬ u71 = 0 → (vp_in u70 10 ∧ (∀ I83 : QI, I83 = q_u2 I72 78 (u70).toNatClampNeg 1 → (∀ v84 : Int32, v84 = (u70 + 1) → (wX8_reached_19 a1 a2 K194 post n 0 v84 I83)))))))))) ∧ (¬ u71 = 0 → (vp_in u70 10 ∧ ((¬ (I72 78 (u70).toNatClampNeg) = 0 → (vp_in u70 10 ∧ ((¬ (I72 78 (u70).toNatClampNeg) = 0 → (vp_in u70 10 ∧ (∀ I85 : QI, I85 = q_u2 I72 78 (u70).toNatClampNeg 1 → (∀ v86 : Int32, v86 = (u70 + 1) → (wX8_reached_19 a1 a2 K194 post n 0 v86 I85))))) ∧ ((I72 78 (u70).toNatClampNeg) = 0 → ((u71 = 0 → (vp_in u70 10 ∧ (∀ I87 : QI, I87 = q_u2 I72 78 (u70).toNatClampNeg 0 → (∀ v88 : Int32, v88 = (u70 + 1) → (wX8_reached_19 a1 a2 K194 post n 0 v88 I87))))) ∧ (¬ u71 = 0 → (vp_in u70 10 ∧ (∀ I89 : QI, I89 = q_u2 I72 78 (u70).toNatClampNeg 1 → (∀ v90 : Int32, v90 = (u70 + 1) → (wX8_reached_19 a1 a2 K194 post n 0 v90 I89)))))))))) ∧ ((I72 78 (u70).toNatClampNeg) = 0 → (vp_in u70 10 ∧ ((¬ (I72 78 (u70).toNatClampNeg) = 0 → (vp_in u70 10 ∧ (∀ I91 : QI, I91 = q_u2 I72 78 (u70).toNatClampNeg 1 → (∀ v92 : Int32, v92 = (u70 + 1) → (wX8_reached_19 a1 a2 K194 post n 1 v92 I91))))) ∧ ((I72 78 (u70).toNatClampNeg) = 0 → ((u71 = 0 → (vp_in u70 10 ∧ (∀ I93 : QI, I93 = q_u2 I72 78 (u70).toNatClampNeg 0 → (∀ v94 : Int32, v94 = (u70 + 1) → (wX8_reached_19 a1 a2 K194 post n 1 v94 I93))))) ∧ (¬ u71 = 0 → (vp_in u70 10 ∧ (∀ I95 : QI, I95 = q_u2 I72 78 (u70).toNatClampNeg 1 → (∀ v96 : Int32, v96 = (u70 + 1) → (wX8_reached_19 a1 a2 K194 post n 1 v96 I95))))))))))))))))) post f x3 x4 1 0 I))))))))))))))
set_option maxRecDepth 100000 in
set_option maxHeartbeats 4000000 in
theorem swX8_reached_19 {X : QX} {S : QS} {a1 : Int32} {a2 : Int32} {J : QJ} {K194 : Int32 → QI → Prop} {post : Int32 → QI → Prop} (hS : Sh S) (hK194 : ∀ (z3 : Int32) (I : QI), K194 z3 I → V X mX8_reached 2 0 0 (q_Pi S (fun r I2 J2 => J = J2 ∧ post r I2)) 194 [(0, .ref 51), (1, .int a1), (2, .int a2), (3, .int z3)] [] S I J 0 0) : ∀ (f : Nat) (x3 : Int32) (x4 : Int32) (I : QI), wX8_reached_19 a1 a2 K194 post f x3 x4 I → V X mX8_reached 2 0 0 (q_Pi S (fun r I2 J2 => J = J2 ∧ post r I2)) 19 [(0, .ref 51), (1, .int a1), (2, .int a2), (3, .int x3), (4, .int x4)] [] S I J 0 0 := by
  intro f
  induction f with
  | zero => intro x3 x4 I h; exact h.elim
  | succ n ih =>
    intro x3 x4 I h
    replace h : (vp_in a1 4 ∧ (((I 53 (a1).toNatClampNeg) ≤ x4 → (K194 x3 I)) ∧ (¬ (I 53 (a1).toNatClampNeg) ≤ x4 → (wX8_isKnown a1 x4 I (fun r2 => ((r2 = 0 → (∃ f : Nat, wX8_reached_68 a1 a2 (fun u11 u12 u13 I14 => ((¬ u11 = 0 → (vp_in u12 10 ∧ ((¬ (I14 78 (u12).toNatClampNeg) = 0 → (vp_in u12 10 ∧ (∀ I15 : QI, I15 = q_u2 I14 78 (u12).toNatClampNeg 1 → (∀ v16 : Int32, v16 = (u12 + 1) → (wX8_reached_19 a1 a2 K194 post n 1 v16 I15))))) ∧ ((I14 78 (u12).toNatClampNeg) = 0 → ((u13 = 0 → (vp_in u12 10 ∧ (∀ I17 : QI, I17 = q_u2 I14 78 (u12).toNatClampNeg 0 → (∀ v18 : Int32, v18 = (u12 + 1) → (wX8_reached_19 a1 a2 K194 post n 1 v18 I17))))) ∧ (¬ u13 = 0 → (vp_in u12 10 ∧ (∀ I19 : QI, I19 = q_u2 I14 78 (u12).toNatClampNeg 1 → (∀ v20 : Int32, v20 = (u12 + 1) → (wX8_reached_19 a1 a2 K194 post n 1 v20 I19)))))))))) ∧ (u11 = 0 → ((u13 = 0 → (vp_in u12 10 ∧ ((¬ (I14 78 (u12).toNatClampNeg) = 0 → (vp_in u12 10 ∧ (∀ I21 : QI, I21 = q_u2 I14 78 (u12).toNatClampNeg 1 → (∀ v22 : Int32, v22 = (u12 + 1) → (wX8_reached_19 a1 a2 K194 post n 0 v22 I21))))) ∧ ((I14 78 (u12).toNatClampNeg) = 0 → ((u13 = 0 → (vp_in u12 10 ∧ (∀ I23 : QI, I23 = q_u2 I14 78 (u12).toNatClampNeg 0 → (∀ v24 : Int32, v24 = (u12 + 1) → (wX8_reached_19 a1 a2 K194 post n 0 v24 I23))))) ∧ (¬ u13 = 0 → (vp_in u12 10 ∧ (∀ I25 : QI, I25 = q_u2 I14 78 (u12).toNatClampNeg 1 → (∀ v26 : Int32, v26 = (u12 + 1) → (wX8_reached_19 a1 a2 K194 post n 0 v26 I25)))))))))) ∧ (¬ u13 = 0 → (vp_in u12 10 ∧ ((¬ (I14 78 (u12).toNatClampNeg) = 0 → (vp_in u12 10 ∧ ((¬ (I14 78 (u12).toNatClampNeg) = 0 → (vp_in u12 10 ∧ (∀ I27 : QI, I27 = q_u2 I14 78 (u12).toNatClampNeg 1 → (∀ v28 : Int32, v28 = (u12 + 1) → (wX8_reached_19 a1 a2 K194 post n 0 v28 I27))))) ∧ ((I14 78 (u12).toNatClampNeg) = 0 → ((u13 = 0 → (vp_in u12 10 ∧ (∀ I29 : QI, I29 = q_u2 I14 78 (u12).toNatClampNeg 0 → (∀ v30 : Int32, v30 = (u12 + 1) → (wX8_reached_19 a1 a2 K194 post n 0 v30 I29))))) ∧ (¬ u13 = 0 → (vp_in u12 10 ∧ (∀ I31 : QI, I31 = q_u2 I14 78 (u12).toNatClampNeg 1 → (∀ v32 : Int32, v32 = (u12 + 1) → (wX8_reached_19 a1 a2 K194 post n 0 v32 I31)))))))))) ∧ ((I14 78 (u12).toNatClampNeg) = 0 → (vp_in u12 10 ∧ ((¬ (I14 78 (u12).toNatClampNeg) = 0 → (vp_in u12 10 ∧ (∀ I33 : QI, I33 = q_u2 I14 78 (u12).toNatClampNeg 1 → (∀ v34 : Int32, v34 = (u12 + 1) → (wX8_reached_19 a1 a2 K194 post n 1 v34 I33))))) ∧ ((I14 78 (u12).toNatClampNeg) = 0 → ((u13 = 0 → (vp_in u12 10 ∧ (∀ I35 : QI, I35 = q_u2 I14 78 (u12).toNatClampNeg 0 → (∀ v36 : Int32, v36 = (u12 + 1) → (wX8_reached_19 a1 a2 K194 post n 1 v36 I35))))) ∧ (¬ u13 = 0 → (vp_in u12 10 ∧ (∀ I37 : QI, I37 = q_u2 I14 78 (u12).toNatClampNeg 1 → (∀ v38 : Int32, v38 = (u12 + 1) → (wX8_reached_19 a1 a2 K194 post n 1 v38 I37))))))))))))))))) post f x3 x4 0 0 I)) ∧ (¬ r2 = 0 → (wX8_at a1 x4 0 I (fun r39 => (wX8_at a1 a2 0 I (fun r40 => ((¬ r39 = r40 → (∃ f : Nat, wX8_reached_68 a1 a2 (fun u41 u42 u43 I44 => ((¬ u41 = 0 → (vp_in u42 10 ∧ ((¬ (I44 78 (u42).toNatClampNeg) = 0 → (vp_in u42 10 ∧ (∀ I45 : QI, I45 = q_u2 I44 78 (u42).toNatClampNeg 1 → (∀ v46 : Int32, v46 = (u42 + 1) → (wX8_reached_19 a1 a2 K194 post n 1 v46 I45))))) ∧ ((I44 78 (u42).toNatClampNeg) = 0 → ((u43 = 0 → (vp_in u42 10 ∧ (∀ I47 : QI, I47 = q_u2 I44 78 (u42).toNatClampNeg 0 → (∀ v48 : Int32, v48 = (u42 + 1) → (wX8_reached_19 a1 a2 K194 post n 1 v48 I47))))) ∧ (¬ u43 = 0 → (vp_in u42 10 ∧ (∀ I49 : QI, I49 = q_u2 I44 78 (u42).toNatClampNeg 1 → (∀ v50 : Int32, v50 = (u42 + 1) → (wX8_reached_19 a1 a2 K194 post n 1 v50 I49)))))))))) ∧ (u41 = 0 → ((u43 = 0 → (vp_in u42 10 ∧ ((¬ (I44 78 (u42).toNatClampNeg) = 0 → (vp_in u42 10 ∧ (∀ I51 : QI, I51 = q_u2 I44 78 (u42).toNatClampNeg 1 → (∀ v52 : Int32, v52 = (u42 + 1) → (wX8_reached_19 a1 a2 K194 post n 0 v52 I51))))) ∧ ((I44 78 (u42).toNatClampNeg) = 0 → ((u43 = 0 → (vp_in u42 10 ∧ (∀ I53 : QI, I53 = q_u2 I44 78 (u42).toNatClampNeg 0 → (∀ v54 : Int32, v54 = (u42 + 1) → (wX8_reached_19 a1 a2 K194 post n 0 v54 I53))))) ∧ (¬ u43 = 0 → (vp_in u42 10 ∧ (∀ I55 : QI, I55 = q_u2 I44 78 (u42).toNatClampNeg 1 → (∀ v56 : Int32, v56 = (u42 + 1) → (wX8_reached_19 a1 a2 K194 post n 0 v56 I55)))))))))) ∧ (¬ u43 = 0 → (vp_in u42 10 ∧ ((¬ (I44 78 (u42).toNatClampNeg) = 0 → (vp_in u42 10 ∧ ((¬ (I44 78 (u42).toNatClampNeg) = 0 → (vp_in u42 10 ∧ (∀ I57 : QI, I57 = q_u2 I44 78 (u42).toNatClampNeg 1 → (∀ v58 : Int32, v58 = (u42 + 1) → (wX8_reached_19 a1 a2 K194 post n 0 v58 I57))))) ∧ ((I44 78 (u42).toNatClampNeg) = 0 → ((u43 = 0 → (vp_in u42 10 ∧ (∀ I59 : QI, I59 = q_u2 I44 78 (u42).toNatClampNeg 0 → (∀ v60 : Int32, v60 = (u42 + 1) → (wX8_reached_19 a1 a2 K194 post n 0 v60 I59))))) ∧ (¬ u43 = 0 → (vp_in u42 10 ∧ (∀ I61 : QI, I61 = q_u2 I44 78 (u42).toNatClampNeg 1 → (∀ v62 : Int32, v62 = (u42 + 1) → (wX8_reached_19 a1 a2 K194 post n 0 v62 I61)))))))))) ∧ ((I44 78 (u42).toNatClampNeg) = 0 → (vp_in u42 10 ∧ ((¬ (I44 78 (u42).toNatClampNeg) = 0 → (vp_in u42 10 ∧ (∀ I63 : QI, I63 = q_u2 I44 78 (u42).toNatClampNeg 1 → (∀ v64 : Int32, v64 = (u42 + 1) → (wX8_reached_19 a1 a2 K194 post n 1 v64 I63))))) ∧ ((I44 78 (u42).toNatClampNeg) = 0 → ((u43 = 0 → (vp_in u42 10 ∧ (∀ I65 : QI, I65 = q_u2 I44 78 (u42).toNatClampNeg 0 → (∀ v66 : Int32, v66 = (u42 + 1) → (wX8_reached_19 a1 a2 K194 post n 1 v66 I65))))) ∧ (¬ u43 = 0 → (vp_in u42 10 ∧ (∀ I67 : QI, I67 = q_u2 I44 78 (u42).toNatClampNeg 1 → (∀ v68 : Int32, v68 = (u42 + 1) → (wX8_reached_19 a1 a2 K194 post n 1 v68 I67))))))))))))))))) post f x3 x4 0 0 I)) ∧ (r39 = r40 → (∃ f : Nat, wX8_reached_68 a1 a2 (fun u69 u70 u71 I72 => ((¬ u69 = 0 → (vp_in u70 10 ∧ ((¬ (I72 78 (u70).toNatClampNeg) = 0 → (vp_in u70 10 ∧ (∀ I73 : QI, I73 = q_u2 I72 78 (u70).toNatClampNeg 1 → (∀ v74 : Int32, v74 = (u70 + 1) → (wX8_reached_19 a1 a2 K194 post n 1 v74 I73))))) ∧ ((I72 78 (u70).toNatClampNeg) = 0 → ((u71 = 0 → (vp_in u70 10 ∧ (∀ I75 : QI, I75 = q_u2 I72 78 (u70).toNatClampNeg 0 → (∀ v76 : Int32, v76 = (u70 + 1) → (wX8_reached_19 a1 a2 K194 post n 1 v76 I75))))) ∧ (¬ u71 = 0 → (vp_in u70 10 ∧ (∀ I77 : QI, I77 = q_u2 I72 78 (u70).toNatClampNeg 1 → (∀ v78 : Int32, v78 = (u70 + 1) → (wX8_reached_19 a1 a2 K194 post n 1 v78 I77)))))))))) ∧ (u69 = 0 → ((u71 = 0 → (vp_in u70 10 ∧ ((¬ (I72 78 (u70).toNatClampNeg) = 0 → (vp_in u70 10 ∧ (∀ I79 : QI, I79 = q_u2 I72 78 (u70).toNatClampNeg 1 → (∀ v80 : Int32, v80 = (u70 + 1) → (wX8_reached_19 a1 a2 K194 post n 0 v80 I79))))) ∧ ((I72 78 (u70).toNatClampNeg) = 0 → ((u71 = 0 → (vp_in u70 10 ∧ (∀ I81 : QI, I81 = q_u2 I72 78 (u70).toNatClampNeg 0 → (∀ v82 : Int32, v82 = (u70 + 1) → (wX8_reached_19 a1 a2 K194 post n 0 v82 I81))))) ∧ (¬ u71 = 0 → (vp_in u70 10 ∧ (∀ I83 : QI, I83 = q_u2 I72 78 (u70).toNatClampNeg 1 → (∀ v84 : Int32, v84 = (u70 + 1) → (wX8_reached_19 a1 a2 K194 post n 0 v84 I83)))))))))) ∧ (¬ u71 = 0 → (vp_in u70 10 ∧ ((¬ (I72 78 (u70).toNatClampNeg) = 0 → (vp_in u70 10 ∧ ((¬ (I72 78 (u70).toNatClampNeg) = 0 → (vp_in u70 10 ∧ (∀ I85 : QI, I85 = q_u2 I72 78 (u70).toNatClampNeg 1 → (∀ v86 : Int32, v86 = (u70 + 1) → (wX8_reached_19 a1 a2 K194 post n 0 v86 I85))))) ∧ ((I72 78 (u70).toNatClampNeg) = 0 → ((u71 = 0 → (vp_in u70 10 ∧ (∀ I87 : QI, I87 = q_u2 I72 78 (u70).toNatClampNeg 0 → (∀ v88 : Int32, v88 = (u70 + 1) → (wX8_reached_19 a1 a2 K194 post n 0 v88 I87))))) ∧ (¬ u71 = 0 → (vp_in u70 10 ∧ (∀ I89 : QI, I89 = q_u2 I72 78 (u70).toNatClampNeg 1 → (∀ v90 : Int32, v90 = (u70 + 1) → (wX8_reached_19 a1 a2 K194 post n 0 v90 I89)))))))))) ∧ ((I72 78 (u70).toNatClampNeg) = 0 → (vp_in u70 10 ∧ ((¬ (I72 78 (u70).toNatClampNeg) = 0 → (vp_in u70 10 ∧ (∀ I91 : QI, I91 = q_u2 I72 78 (u70).toNatClampNeg 1 → (∀ v92 : Int32, v92 = (u70 + 1) → (wX8_reached_19 a1 a2 K194 post n 1 v92 I91))))) ∧ ((I72 78 (u70).toNatClampNeg) = 0 → ((u71 = 0 → (vp_in u70 10 ∧ (∀ I93 : QI, I93 = q_u2 I72 78 (u70).toNatClampNeg 0 → (∀ v94 : Int32, v94 = (u70 + 1) → (wX8_reached_19 a1 a2 K194 post n 1 v94 I93))))) ∧ (¬ u71 = 0 → (vp_in u70 10 ∧ (∀ I95 : QI, I95 = q_u2 I72 78 (u70).toNatClampNeg 1 → (∀ v96 : Int32, v96 = (u70 + 1) → (wX8_reached_19 a1 a2 K194 post n 1 v96 I95))))))))))))))))) post f x3 x4 1 0 I)))))))))))))) := h
    refine V_iload dX8_reached_19 rfl ?_
    refine V_aload_n dX8_reached_21 rfl rfl ?_
    refine V_getr dX8_reached_22 fl_RX8_13 (hS.n 51 rfl) (hS.k 51 8 rfl) rfl (hS.r 51 3 53 rfl) ?_
    refine V_iload_n dX8_reached_25 rfl rfl ?_
    obtain ⟨hb, h⟩ := h
    refine V_iald dX8_reached_26 (hS.n 53 rfl) (hS.k 53 9 rfl) (by rw [(hS.z 53 4 rfl)]; exact hb) ?_
    refine V_icmp_ge 194 dX8_reached_27 rfl (fun hc => ?_) (fun hc => ?_)
    · replace h := h.1 hc
      refine V_sub (lo2 := [(0, .ref 51), (1, .int a1), (2, .int a2), (3, .int x3)]) [0, 1, 2, 3] rfl ?_
      exact hK194 _ _ h
    · replace h := h.2 hc
      refine V_aload_n dX8_reached_30 rfl rfl ?_
      refine V_iload_n dX8_reached_31 rfl rfl ?_
      refine V_iload dX8_reached_32 rfl ?_
      refine V_callVi (st := []) [.int a1, .int x4] dX8_reached_34 ok_mX8_isKnown rfl ml_RX8_278 in_mX8_isKnown se_mX8_isKnown (hS.n 51 rfl) (hS.k 51 8 rfl) (by decide) rfl (Nat.le_of_ble_eq_true rfl) (by decide) (by decide) (by decide) (s_mX8_isKnown hS h) (fun r2 I9 J9 h => ?_)
      obtain ⟨rfl, rfl, h⟩ := h
      refine V_if_eq 62 dX8_reached_37 rfl (fun hc => ?_) (fun hc => ?_)
      · replace h := h.1 hc
        refine V_iconst (v := 0) dX8_reached_62 (by decide) ?_
        refine V_istore (lo2 := [(5, .int 0), (0, .ref 51), (1, .int a1), (2, .int a2), (3, .int x3), (4, .int x4)]) dX8_reached_63 (by decide) rfl ?_
        refine V_iconst (v := 0) dX8_reached_65 (by decide) ?_
        refine V_istore (lo2 := [(6, .int 0), (5, .int 0), (0, .ref 51), (1, .int a1), (2, .int a2), (3, .int x3), (4, .int x4)]) dX8_reached_66 (by decide) rfl ?_
        refine V_sub (lo2 := [(0, .ref 51), (1, .int a1), (2, .int a2), (3, .int x3), (4, .int x4), (5, .int 0), (6, .int 0)]) [2, 3, 4, 5, 6, 1, 0] rfl ?_
        obtain ⟨f9, h⟩ := h
        refine swX8_reached_68 hS ?_ f9 _ _ _ _ _ h
        · intro u11 u12 u13 I14 h
          refine V_iload_n dX8_reached_136 rfl rfl ?_
          refine V_if_ne 155 dX8_reached_137 rfl (fun hc => ?_) (fun hc => ?_)
          · replace h := h.1 hc
            refine V_iconst (v := 1) dX8_reached_155 (by decide) ?_
            refine V_goto 160 dX8_reached_156 rfl ?_
            refine V_istore_n (lo2 := [(3, .int 1), (0, .ref 51), (1, .int a1), (2, .int a2), (4, .int u12), (5, .int u13)]) dX8_reached_160 rfl (by decide) rfl ?_
            refine V_aload_n dX8_reached_161 rfl rfl ?_
            refine V_getr dX8_reached_162 fl_RX8_95 (hS.n 51 rfl) (hS.k 51 8 rfl) rfl (hS.r 51 35 78 rfl) ?_
            refine V_iload dX8_reached_165 rfl ?_
            refine V_aload_n dX8_reached_167 rfl rfl ?_
            refine V_getr dX8_reached_168 fl_RX8_95 (hS.n 51 rfl) (hS.k 51 8 rfl) rfl (hS.r 51 35 78 rfl) ?_
            refine V_iload dX8_reached_171 rfl ?_
            obtain ⟨hb, h⟩ := h
            refine V_zald dX8_reached_173 (hS.n 78 rfl) (hS.k 78 11 rfl) (by rw [(hS.z 78 10 rfl)]; exact hb) ?_
            refine V_if_ne 182 dX8_reached_174 rfl (fun hc => ?_) (fun hc => ?_)
            · replace h := h.1 hc
              refine V_iconst (v := 1) dX8_reached_182 (by decide) ?_
              refine V_goto 187 dX8_reached_183 rfl ?_
              obtain ⟨hb, h⟩ := h
              refine V_zast dX8_reached_187 (hS.n 78 rfl) (hS.k 78 11 rfl) (by rw [(hS.z 78 10 rfl)]; exact hb) (q_vz (by decide)) ?_
              refine V_memI (fun I15 e_I15 => ?_)
              replace h := h I15 e_I15
              obtain ⟨v16, e_v16⟩ : ∃ z : Int32, z = (u12 + 1) := ⟨_, rfl⟩
              replace h := h v16 e_v16
              refine V_iinc (lo2 := [(4, .int v16), (3, .int 1), (0, .ref 51), (1, .int a1), (2, .int a2), (5, .int u13)]) 4 dX8_reached_188 rfl (v := v16) (by rw [e_v16]; first | done | rfl) (by decide) rfl ?_
              refine V_goto 19 dX8_reached_191 rfl ?_
              refine V_sub (lo2 := [(0, .ref 51), (1, .int a1), (2, .int a2), (3, .int 1), (4, .int v16)]) [2, 3, 4, 1, 0] rfl ?_
              exact ih _ _ _ h
            · replace h := h.2 hc
              refine V_iload dX8_reached_177 rfl ?_
              refine V_if_eq 186 dX8_reached_179 rfl (fun hc => ?_) (fun hc => ?_)
              · replace h := h.1 hc
                refine V_iconst (v := 0) dX8_reached_186 (by decide) ?_
                obtain ⟨hb, h⟩ := h
                refine V_zast dX8_reached_187 (hS.n 78 rfl) (hS.k 78 11 rfl) (by rw [(hS.z 78 10 rfl)]; exact hb) (q_vz (by decide)) ?_
                refine V_memI (fun I17 e_I17 => ?_)
                replace h := h I17 e_I17
                obtain ⟨v18, e_v18⟩ : ∃ z : Int32, z = (u12 + 1) := ⟨_, rfl⟩
                replace h := h v18 e_v18
                refine V_iinc (lo2 := [(4, .int v18), (3, .int 1), (0, .ref 51), (1, .int a1), (2, .int a2), (5, .int u13)]) 4 dX8_reached_188 rfl (v := v18) (by rw [e_v18]; first | done | rfl) (by decide) rfl ?_
                refine V_goto 19 dX8_reached_191 rfl ?_
                refine V_sub (lo2 := [(0, .ref 51), (1, .int a1), (2, .int a2), (3, .int 1), (4, .int v18)]) [2, 3, 4, 1, 0] rfl ?_
                exact ih _ _ _ h
              · replace h := h.2 hc
                refine V_iconst (v := 1) dX8_reached_182 (by decide) ?_
                refine V_goto 187 dX8_reached_183 rfl ?_
                obtain ⟨hb, h⟩ := h
                refine V_zast dX8_reached_187 (hS.n 78 rfl) (hS.k 78 11 rfl) (by rw [(hS.z 78 10 rfl)]; exact hb) (q_vz (by decide)) ?_
                refine V_memI (fun I19 e_I19 => ?_)
                replace h := h I19 e_I19
                obtain ⟨v20, e_v20⟩ : ∃ z : Int32, z = (u12 + 1) := ⟨_, rfl⟩
                replace h := h v20 e_v20
                refine V_iinc (lo2 := [(4, .int v20), (3, .int 1), (0, .ref 51), (1, .int a1), (2, .int a2), (5, .int u13)]) 4 dX8_reached_188 rfl (v := v20) (by rw [e_v20]; first | done | rfl) (by decide) rfl ?_
                refine V_goto 19 dX8_reached_191 rfl ?_
                refine V_sub (lo2 := [(0, .ref 51), (1, .int a1), (2, .int a2), (3, .int 1), (4, .int v20)]) [2, 3, 4, 1, 0] rfl ?_
                exact ih _ _ _ h
          · replace h := h.2 hc
            refine V_iload dX8_reached_140 rfl ?_
            refine V_if_eq 159 dX8_reached_142 rfl (fun hc => ?_) (fun hc => ?_)
            · replace h := h.1 hc
              refine V_iconst (v := 0) dX8_reached_159 (by decide) ?_
              refine V_istore_n (lo2 := [(3, .int 0), (0, .ref 51), (1, .int a1), (2, .int a2), (4, .int u12), (5, .int u13)]) dX8_reached_160 rfl (by decide) rfl ?_
              refine V_aload_n dX8_reached_161 rfl rfl ?_
              refine V_getr dX8_reached_162 fl_RX8_95 (hS.n 51 rfl) (hS.k 51 8 rfl) rfl (hS.r 51 35 78 rfl) ?_
              refine V_iload dX8_reached_165 rfl ?_
              refine V_aload_n dX8_reached_167 rfl rfl ?_
              refine V_getr dX8_reached_168 fl_RX8_95 (hS.n 51 rfl) (hS.k 51 8 rfl) rfl (hS.r 51 35 78 rfl) ?_
              refine V_iload dX8_reached_171 rfl ?_
              obtain ⟨hb, h⟩ := h
              refine V_zald dX8_reached_173 (hS.n 78 rfl) (hS.k 78 11 rfl) (by rw [(hS.z 78 10 rfl)]; exact hb) ?_
              refine V_if_ne 182 dX8_reached_174 rfl (fun hc => ?_) (fun hc => ?_)
              · replace h := h.1 hc
                refine V_iconst (v := 1) dX8_reached_182 (by decide) ?_
                refine V_goto 187 dX8_reached_183 rfl ?_
                obtain ⟨hb, h⟩ := h
                refine V_zast dX8_reached_187 (hS.n 78 rfl) (hS.k 78 11 rfl) (by rw [(hS.z 78 10 rfl)]; exact hb) (q_vz (by decide)) ?_
                refine V_memI (fun I21 e_I21 => ?_)
                replace h := h I21 e_I21
                obtain ⟨v22, e_v22⟩ : ∃ z : Int32, z = (u12 + 1) := ⟨_, rfl⟩
                replace h := h v22 e_v22
                refine V_iinc (lo2 := [(4, .int v22), (3, .int 0), (0, .ref 51), (1, .int a1), (2, .int a2), (5, .int u13)]) 4 dX8_reached_188 rfl (v := v22) (by rw [e_v22]; first | done | rfl) (by decide) rfl ?_
                refine V_goto 19 dX8_reached_191 rfl ?_
                refine V_sub (lo2 := [(0, .ref 51), (1, .int a1), (2, .int a2), (3, .int 0), (4, .int v22)]) [2, 3, 4, 1, 0] rfl ?_
                exact ih _ _ _ h
              · replace h := h.2 hc
                refine V_iload dX8_reached_177 rfl ?_
                refine V_if_eq 186 dX8_reached_179 rfl (fun hc => ?_) (fun hc => ?_)
                · replace h := h.1 hc
                  refine V_iconst (v := 0) dX8_reached_186 (by decide) ?_
                  obtain ⟨hb, h⟩ := h
                  refine V_zast dX8_reached_187 (hS.n 78 rfl) (hS.k 78 11 rfl) (by rw [(hS.z 78 10 rfl)]; exact hb) (q_vz (by decide)) ?_
                  refine V_memI (fun I23 e_I23 => ?_)
                  replace h := h I23 e_I23
                  obtain ⟨v24, e_v24⟩ : ∃ z : Int32, z = (u12 + 1) := ⟨_, rfl⟩
                  replace h := h v24 e_v24
                  refine V_iinc (lo2 := [(4, .int v24), (3, .int 0), (0, .ref 51), (1, .int a1), (2, .int a2), (5, .int u13)]) 4 dX8_reached_188 rfl (v := v24) (by rw [e_v24]; first | done | rfl) (by decide) rfl ?_
                  refine V_goto 19 dX8_reached_191 rfl ?_
                  refine V_sub (lo2 := [(0, .ref 51), (1, .int a1), (2, .int a2), (3, .int 0), (4, .int v24)]) [2, 3, 4, 1, 0] rfl ?_
                  exact ih _ _ _ h
                · replace h := h.2 hc
                  refine V_iconst (v := 1) dX8_reached_182 (by decide) ?_
                  refine V_goto 187 dX8_reached_183 rfl ?_
                  obtain ⟨hb, h⟩ := h
                  refine V_zast dX8_reached_187 (hS.n 78 rfl) (hS.k 78 11 rfl) (by rw [(hS.z 78 10 rfl)]; exact hb) (q_vz (by decide)) ?_
                  refine V_memI (fun I25 e_I25 => ?_)
                  replace h := h I25 e_I25
                  obtain ⟨v26, e_v26⟩ : ∃ z : Int32, z = (u12 + 1) := ⟨_, rfl⟩
                  replace h := h v26 e_v26
                  refine V_iinc (lo2 := [(4, .int v26), (3, .int 0), (0, .ref 51), (1, .int a1), (2, .int a2), (5, .int u13)]) 4 dX8_reached_188 rfl (v := v26) (by rw [e_v26]; first | done | rfl) (by decide) rfl ?_
                  refine V_goto 19 dX8_reached_191 rfl ?_
                  refine V_sub (lo2 := [(0, .ref 51), (1, .int a1), (2, .int a2), (3, .int 0), (4, .int v26)]) [2, 3, 4, 1, 0] rfl ?_
                  exact ih _ _ _ h
            · replace h := h.2 hc
              refine V_aload_n dX8_reached_145 rfl rfl ?_
              refine V_getr dX8_reached_146 fl_RX8_95 (hS.n 51 rfl) (hS.k 51 8 rfl) rfl (hS.r 51 35 78 rfl) ?_
              refine V_iload dX8_reached_149 rfl ?_
              obtain ⟨hb, h⟩ := h
              refine V_zald dX8_reached_151 (hS.n 78 rfl) (hS.k 78 11 rfl) (by rw [(hS.z 78 10 rfl)]; exact hb) ?_
              refine V_if_ne 159 dX8_reached_152 rfl (fun hc => ?_) (fun hc => ?_)
              · replace h := h.1 hc
                refine V_iconst (v := 0) dX8_reached_159 (by decide) ?_
                refine V_istore_n (lo2 := [(3, .int 0), (0, .ref 51), (1, .int a1), (2, .int a2), (4, .int u12), (5, .int u13)]) dX8_reached_160 rfl (by decide) rfl ?_
                refine V_aload_n dX8_reached_161 rfl rfl ?_
                refine V_getr dX8_reached_162 fl_RX8_95 (hS.n 51 rfl) (hS.k 51 8 rfl) rfl (hS.r 51 35 78 rfl) ?_
                refine V_iload dX8_reached_165 rfl ?_
                refine V_aload_n dX8_reached_167 rfl rfl ?_
                refine V_getr dX8_reached_168 fl_RX8_95 (hS.n 51 rfl) (hS.k 51 8 rfl) rfl (hS.r 51 35 78 rfl) ?_
                refine V_iload dX8_reached_171 rfl ?_
                obtain ⟨hb, h⟩ := h
                refine V_zald dX8_reached_173 (hS.n 78 rfl) (hS.k 78 11 rfl) (by rw [(hS.z 78 10 rfl)]; exact hb) ?_
                refine V_if_ne 182 dX8_reached_174 rfl (fun hc => ?_) (fun hc => ?_)
                · replace h := h.1 hc
                  refine V_iconst (v := 1) dX8_reached_182 (by decide) ?_
                  refine V_goto 187 dX8_reached_183 rfl ?_
                  obtain ⟨hb, h⟩ := h
                  refine V_zast dX8_reached_187 (hS.n 78 rfl) (hS.k 78 11 rfl) (by rw [(hS.z 78 10 rfl)]; exact hb) (q_vz (by decide)) ?_
                  refine V_memI (fun I27 e_I27 => ?_)
                  replace h := h I27 e_I27
                  obtain ⟨v28, e_v28⟩ : ∃ z : Int32, z = (u12 + 1) := ⟨_, rfl⟩
                  replace h := h v28 e_v28
                  refine V_iinc (lo2 := [(4, .int v28), (3, .int 0), (0, .ref 51), (1, .int a1), (2, .int a2), (5, .int u13)]) 4 dX8_reached_188 rfl (v := v28) (by rw [e_v28]; first | done | rfl) (by decide) rfl ?_
                  refine V_goto 19 dX8_reached_191 rfl ?_
                  refine V_sub (lo2 := [(0, .ref 51), (1, .int a1), (2, .int a2), (3, .int 0), (4, .int v28)]) [2, 3, 4, 1, 0] rfl ?_
                  exact ih _ _ _ h
                · replace h := h.2 hc
                  refine V_iload dX8_reached_177 rfl ?_
                  refine V_if_eq 186 dX8_reached_179 rfl (fun hc => ?_) (fun hc => ?_)
                  · replace h := h.1 hc
                    refine V_iconst (v := 0) dX8_reached_186 (by decide) ?_
                    obtain ⟨hb, h⟩ := h
                    refine V_zast dX8_reached_187 (hS.n 78 rfl) (hS.k 78 11 rfl) (by rw [(hS.z 78 10 rfl)]; exact hb) (q_vz (by decide)) ?_
                    refine V_memI (fun I29 e_I29 => ?_)
                    replace h := h I29 e_I29
                    obtain ⟨v30, e_v30⟩ : ∃ z : Int32, z = (u12 + 1) := ⟨_, rfl⟩
                    replace h := h v30 e_v30
                    refine V_iinc (lo2 := [(4, .int v30), (3, .int 0), (0, .ref 51), (1, .int a1), (2, .int a2), (5, .int u13)]) 4 dX8_reached_188 rfl (v := v30) (by rw [e_v30]; first | done | rfl) (by decide) rfl ?_
                    refine V_goto 19 dX8_reached_191 rfl ?_
                    refine V_sub (lo2 := [(0, .ref 51), (1, .int a1), (2, .int a2), (3, .int 0), (4, .int v30)]) [2, 3, 4, 1, 0] rfl ?_
                    exact ih _ _ _ h
                  · replace h := h.2 hc
                    refine V_iconst (v := 1) dX8_reached_182 (by decide) ?_
                    refine V_goto 187 dX8_reached_183 rfl ?_
                    obtain ⟨hb, h⟩ := h
                    refine V_zast dX8_reached_187 (hS.n 78 rfl) (hS.k 78 11 rfl) (by rw [(hS.z 78 10 rfl)]; exact hb) (q_vz (by decide)) ?_
                    refine V_memI (fun I31 e_I31 => ?_)
                    replace h := h I31 e_I31
                    obtain ⟨v32, e_v32⟩ : ∃ z : Int32, z = (u12 + 1) := ⟨_, rfl⟩
                    replace h := h v32 e_v32
                    refine V_iinc (lo2 := [(4, .int v32), (3, .int 0), (0, .ref 51), (1, .int a1), (2, .int a2), (5, .int u13)]) 4 dX8_reached_188 rfl (v := v32) (by rw [e_v32]; first | done | rfl) (by decide) rfl ?_
                    refine V_goto 19 dX8_reached_191 rfl ?_
                    refine V_sub (lo2 := [(0, .ref 51), (1, .int a1), (2, .int a2), (3, .int 0), (4, .int v32)]) [2, 3, 4, 1, 0] rfl ?_
                    exact ih _ _ _ h
              · replace h := h.2 hc
                refine V_iconst (v := 1) dX8_reached_155 (by decide) ?_
                refine V_goto 160 dX8_reached_156 rfl ?_
                refine V_istore_n (lo2 := [(3, .int 1), (0, .ref 51), (1, .int a1), (2, .int a2), (4, .int u12), (5, .int u13)]) dX8_reached_160 rfl (by decide) rfl ?_
                refine V_aload_n dX8_reached_161 rfl rfl ?_
                refine V_getr dX8_reached_162 fl_RX8_95 (hS.n 51 rfl) (hS.k 51 8 rfl) rfl (hS.r 51 35 78 rfl) ?_
                refine V_iload dX8_reached_165 rfl ?_
                refine V_aload_n dX8_reached_167 rfl rfl ?_
                refine V_getr dX8_reached_168 fl_RX8_95 (hS.n 51 rfl) (hS.k 51 8 rfl) rfl (hS.r 51 35 78 rfl) ?_
                refine V_iload dX8_reached_171 rfl ?_
                obtain ⟨hb, h⟩ := h
                refine V_zald dX8_reached_173 (hS.n 78 rfl) (hS.k 78 11 rfl) (by rw [(hS.z 78 10 rfl)]; exact hb) ?_
                refine V_if_ne 182 dX8_reached_174 rfl (fun hc => ?_) (fun hc => ?_)
                · replace h := h.1 hc
                  refine V_iconst (v := 1) dX8_reached_182 (by decide) ?_
                  refine V_goto 187 dX8_reached_183 rfl ?_
                  obtain ⟨hb, h⟩ := h
                  refine V_zast dX8_reached_187 (hS.n 78 rfl) (hS.k 78 11 rfl) (by rw [(hS.z 78 10 rfl)]; exact hb) (q_vz (by decide)) ?_
                  refine V_memI (fun I33 e_I33 => ?_)
                  replace h := h I33 e_I33
                  obtain ⟨v34, e_v34⟩ : ∃ z : Int32, z = (u12 + 1) := ⟨_, rfl⟩
                  replace h := h v34 e_v34
                  refine V_iinc (lo2 := [(4, .int v34), (3, .int 1), (0, .ref 51), (1, .int a1), (2, .int a2), (5, .int u13)]) 4 dX8_reached_188 rfl (v := v34) (by rw [e_v34]; first | done | rfl) (by decide) rfl ?_
                  refine V_goto 19 dX8_reached_191 rfl ?_
                  refine V_sub (lo2 := [(0, .ref 51), (1, .int a1), (2, .int a2), (3, .int 1), (4, .int v34)]) [2, 3, 4, 1, 0] rfl ?_
                  exact ih _ _ _ h
                · replace h := h.2 hc
                  refine V_iload dX8_reached_177 rfl ?_
                  refine V_if_eq 186 dX8_reached_179 rfl (fun hc => ?_) (fun hc => ?_)
                  · replace h := h.1 hc
                    refine V_iconst (v := 0) dX8_reached_186 (by decide) ?_
                    obtain ⟨hb, h⟩ := h
                    refine V_zast dX8_reached_187 (hS.n 78 rfl) (hS.k 78 11 rfl) (by rw [(hS.z 78 10 rfl)]; exact hb) (q_vz (by decide)) ?_
                    refine V_memI (fun I35 e_I35 => ?_)
                    replace h := h I35 e_I35
                    obtain ⟨v36, e_v36⟩ : ∃ z : Int32, z = (u12 + 1) := ⟨_, rfl⟩
                    replace h := h v36 e_v36
                    refine V_iinc (lo2 := [(4, .int v36), (3, .int 1), (0, .ref 51), (1, .int a1), (2, .int a2), (5, .int u13)]) 4 dX8_reached_188 rfl (v := v36) (by rw [e_v36]; first | done | rfl) (by decide) rfl ?_
                    refine V_goto 19 dX8_reached_191 rfl ?_
                    refine V_sub (lo2 := [(0, .ref 51), (1, .int a1), (2, .int a2), (3, .int 1), (4, .int v36)]) [2, 3, 4, 1, 0] rfl ?_
                    exact ih _ _ _ h
                  · replace h := h.2 hc
                    refine V_iconst (v := 1) dX8_reached_182 (by decide) ?_
                    refine V_goto 187 dX8_reached_183 rfl ?_
                    obtain ⟨hb, h⟩ := h
                    refine V_zast dX8_reached_187 (hS.n 78 rfl) (hS.k 78 11 rfl) (by rw [(hS.z 78 10 rfl)]; exact hb) (q_vz (by decide)) ?_
                    refine V_memI (fun I37 e_I37 => ?_)
                    replace h := h I37 e_I37
                    obtain ⟨v38, e_v38⟩ : ∃ z : Int32, z = (u12 + 1) := ⟨_, rfl⟩
                    replace h := h v38 e_v38
                    refine V_iinc (lo2 := [(4, .int v38), (3, .int 1), (0, .ref 51), (1, .int a1), (2, .int a2), (5, .int u13)]) 4 dX8_reached_188 rfl (v := v38) (by rw [e_v38]; first | done | rfl) (by decide) rfl ?_
                    refine V_goto 19 dX8_reached_191 rfl ?_
                    refine V_sub (lo2 := [(0, .ref 51), (1, .int a1), (2, .int a2), (3, .int 1), (4, .int v38)]) [2, 3, 4, 1, 0] rfl ?_
                    exact ih _ _ _ h
      · replace h := h.2 hc
        refine V_aload_n dX8_reached_40 rfl rfl ?_
        refine V_iload_n dX8_reached_41 rfl rfl ?_
        refine V_iload dX8_reached_42 rfl ?_
        refine V_iconst (v := 0) dX8_reached_44 (by decide) ?_
        refine V_callVi (st := []) [.int a1, .int x4, .int 0] dX8_reached_45 ok_mX8_at rfl ml_RX8_152 in_mX8_at se_mX8_at (hS.n 51 rfl) (hS.k 51 8 rfl) (by decide) rfl (Nat.le_of_ble_eq_true rfl) (by decide) (by decide) (by decide) (s_mX8_at hS h) (fun r39 I9 J9 h => ?_)
        obtain ⟨rfl, rfl, h⟩ := h
        refine V_aload_n dX8_reached_48 rfl rfl ?_
        refine V_iload_n dX8_reached_49 rfl rfl ?_
        refine V_iload_n dX8_reached_50 rfl rfl ?_
        refine V_iconst (v := 0) dX8_reached_51 (by decide) ?_
        refine V_callVi (st := [.int r39]) [.int a1, .int a2, .int 0] dX8_reached_52 ok_mX8_at rfl ml_RX8_152 in_mX8_at se_mX8_at (hS.n 51 rfl) (hS.k 51 8 rfl) (by decide) rfl (Nat.le_of_ble_eq_true rfl) (by decide) (by decide) (by decide) (s_mX8_at hS h) (fun r40 I9 J9 h => ?_)
        obtain ⟨rfl, rfl, h⟩ := h
        refine V_icmp_ne 62 dX8_reached_55 rfl (fun hc => ?_) (fun hc => ?_)
        · replace h := h.1 hc
          refine V_iconst (v := 0) dX8_reached_62 (by decide) ?_
          refine V_istore (lo2 := [(5, .int 0), (0, .ref 51), (1, .int a1), (2, .int a2), (3, .int x3), (4, .int x4)]) dX8_reached_63 (by decide) rfl ?_
          refine V_iconst (v := 0) dX8_reached_65 (by decide) ?_
          refine V_istore (lo2 := [(6, .int 0), (5, .int 0), (0, .ref 51), (1, .int a1), (2, .int a2), (3, .int x3), (4, .int x4)]) dX8_reached_66 (by decide) rfl ?_
          refine V_sub (lo2 := [(0, .ref 51), (1, .int a1), (2, .int a2), (3, .int x3), (4, .int x4), (5, .int 0), (6, .int 0)]) [2, 3, 4, 5, 6, 1, 0] rfl ?_
          obtain ⟨f9, h⟩ := h
          refine swX8_reached_68 hS ?_ f9 _ _ _ _ _ h
          · intro u41 u42 u43 I44 h
            refine V_iload_n dX8_reached_136 rfl rfl ?_
            refine V_if_ne 155 dX8_reached_137 rfl (fun hc => ?_) (fun hc => ?_)
            · replace h := h.1 hc
              refine V_iconst (v := 1) dX8_reached_155 (by decide) ?_
              refine V_goto 160 dX8_reached_156 rfl ?_
              refine V_istore_n (lo2 := [(3, .int 1), (0, .ref 51), (1, .int a1), (2, .int a2), (4, .int u42), (5, .int u43)]) dX8_reached_160 rfl (by decide) rfl ?_
              refine V_aload_n dX8_reached_161 rfl rfl ?_
              refine V_getr dX8_reached_162 fl_RX8_95 (hS.n 51 rfl) (hS.k 51 8 rfl) rfl (hS.r 51 35 78 rfl) ?_
              refine V_iload dX8_reached_165 rfl ?_
              refine V_aload_n dX8_reached_167 rfl rfl ?_
              refine V_getr dX8_reached_168 fl_RX8_95 (hS.n 51 rfl) (hS.k 51 8 rfl) rfl (hS.r 51 35 78 rfl) ?_
              refine V_iload dX8_reached_171 rfl ?_
              obtain ⟨hb, h⟩ := h
              refine V_zald dX8_reached_173 (hS.n 78 rfl) (hS.k 78 11 rfl) (by rw [(hS.z 78 10 rfl)]; exact hb) ?_
              refine V_if_ne 182 dX8_reached_174 rfl (fun hc => ?_) (fun hc => ?_)
              · replace h := h.1 hc
                refine V_iconst (v := 1) dX8_reached_182 (by decide) ?_
                refine V_goto 187 dX8_reached_183 rfl ?_
                obtain ⟨hb, h⟩ := h
                refine V_zast dX8_reached_187 (hS.n 78 rfl) (hS.k 78 11 rfl) (by rw [(hS.z 78 10 rfl)]; exact hb) (q_vz (by decide)) ?_
                refine V_memI (fun I45 e_I45 => ?_)
                replace h := h I45 e_I45
                obtain ⟨v46, e_v46⟩ : ∃ z : Int32, z = (u42 + 1) := ⟨_, rfl⟩
                replace h := h v46 e_v46
                refine V_iinc (lo2 := [(4, .int v46), (3, .int 1), (0, .ref 51), (1, .int a1), (2, .int a2), (5, .int u43)]) 4 dX8_reached_188 rfl (v := v46) (by rw [e_v46]; first | done | rfl) (by decide) rfl ?_
                refine V_goto 19 dX8_reached_191 rfl ?_
                refine V_sub (lo2 := [(0, .ref 51), (1, .int a1), (2, .int a2), (3, .int 1), (4, .int v46)]) [2, 3, 4, 1, 0] rfl ?_
                exact ih _ _ _ h
              · replace h := h.2 hc
                refine V_iload dX8_reached_177 rfl ?_
                refine V_if_eq 186 dX8_reached_179 rfl (fun hc => ?_) (fun hc => ?_)
                · replace h := h.1 hc
                  refine V_iconst (v := 0) dX8_reached_186 (by decide) ?_
                  obtain ⟨hb, h⟩ := h
                  refine V_zast dX8_reached_187 (hS.n 78 rfl) (hS.k 78 11 rfl) (by rw [(hS.z 78 10 rfl)]; exact hb) (q_vz (by decide)) ?_
                  refine V_memI (fun I47 e_I47 => ?_)
                  replace h := h I47 e_I47
                  obtain ⟨v48, e_v48⟩ : ∃ z : Int32, z = (u42 + 1) := ⟨_, rfl⟩
                  replace h := h v48 e_v48
                  refine V_iinc (lo2 := [(4, .int v48), (3, .int 1), (0, .ref 51), (1, .int a1), (2, .int a2), (5, .int u43)]) 4 dX8_reached_188 rfl (v := v48) (by rw [e_v48]; first | done | rfl) (by decide) rfl ?_
                  refine V_goto 19 dX8_reached_191 rfl ?_
                  refine V_sub (lo2 := [(0, .ref 51), (1, .int a1), (2, .int a2), (3, .int 1), (4, .int v48)]) [2, 3, 4, 1, 0] rfl ?_
                  exact ih _ _ _ h
                · replace h := h.2 hc
                  refine V_iconst (v := 1) dX8_reached_182 (by decide) ?_
                  refine V_goto 187 dX8_reached_183 rfl ?_
                  obtain ⟨hb, h⟩ := h
                  refine V_zast dX8_reached_187 (hS.n 78 rfl) (hS.k 78 11 rfl) (by rw [(hS.z 78 10 rfl)]; exact hb) (q_vz (by decide)) ?_
                  refine V_memI (fun I49 e_I49 => ?_)
                  replace h := h I49 e_I49
                  obtain ⟨v50, e_v50⟩ : ∃ z : Int32, z = (u42 + 1) := ⟨_, rfl⟩
                  replace h := h v50 e_v50
                  refine V_iinc (lo2 := [(4, .int v50), (3, .int 1), (0, .ref 51), (1, .int a1), (2, .int a2), (5, .int u43)]) 4 dX8_reached_188 rfl (v := v50) (by rw [e_v50]; first | done | rfl) (by decide) rfl ?_
                  refine V_goto 19 dX8_reached_191 rfl ?_
                  refine V_sub (lo2 := [(0, .ref 51), (1, .int a1), (2, .int a2), (3, .int 1), (4, .int v50)]) [2, 3, 4, 1, 0] rfl ?_
                  exact ih _ _ _ h
            · replace h := h.2 hc
              refine V_iload dX8_reached_140 rfl ?_
              refine V_if_eq 159 dX8_reached_142 rfl (fun hc => ?_) (fun hc => ?_)
              · replace h := h.1 hc
                refine V_iconst (v := 0) dX8_reached_159 (by decide) ?_
                refine V_istore_n (lo2 := [(3, .int 0), (0, .ref 51), (1, .int a1), (2, .int a2), (4, .int u42), (5, .int u43)]) dX8_reached_160 rfl (by decide) rfl ?_
                refine V_aload_n dX8_reached_161 rfl rfl ?_
                refine V_getr dX8_reached_162 fl_RX8_95 (hS.n 51 rfl) (hS.k 51 8 rfl) rfl (hS.r 51 35 78 rfl) ?_
                refine V_iload dX8_reached_165 rfl ?_
                refine V_aload_n dX8_reached_167 rfl rfl ?_
                refine V_getr dX8_reached_168 fl_RX8_95 (hS.n 51 rfl) (hS.k 51 8 rfl) rfl (hS.r 51 35 78 rfl) ?_
                refine V_iload dX8_reached_171 rfl ?_
                obtain ⟨hb, h⟩ := h
                refine V_zald dX8_reached_173 (hS.n 78 rfl) (hS.k 78 11 rfl) (by rw [(hS.z 78 10 rfl)]; exact hb) ?_
                refine V_if_ne 182 dX8_reached_174 rfl (fun hc => ?_) (fun hc => ?_)
                · replace h := h.1 hc
                  refine V_iconst (v := 1) dX8_reached_182 (by decide) ?_
                  refine V_goto 187 dX8_reached_183 rfl ?_
                  obtain ⟨hb, h⟩ := h
                  refine V_zast dX8_reached_187 (hS.n 78 rfl) (hS.k 78 11 rfl) (by rw [(hS.z 78 10 rfl)]; exact hb) (q_vz (by decide)) ?_
                  refine V_memI (fun I51 e_I51 => ?_)
                  replace h := h I51 e_I51
                  obtain ⟨v52, e_v52⟩ : ∃ z : Int32, z = (u42 + 1) := ⟨_, rfl⟩
                  replace h := h v52 e_v52
                  refine V_iinc (lo2 := [(4, .int v52), (3, .int 0), (0, .ref 51), (1, .int a1), (2, .int a2), (5, .int u43)]) 4 dX8_reached_188 rfl (v := v52) (by rw [e_v52]; first | done | rfl) (by decide) rfl ?_
                  refine V_goto 19 dX8_reached_191 rfl ?_
                  refine V_sub (lo2 := [(0, .ref 51), (1, .int a1), (2, .int a2), (3, .int 0), (4, .int v52)]) [2, 3, 4, 1, 0] rfl ?_
                  exact ih _ _ _ h
                · replace h := h.2 hc
                  refine V_iload dX8_reached_177 rfl ?_
                  refine V_if_eq 186 dX8_reached_179 rfl (fun hc => ?_) (fun hc => ?_)
                  · replace h := h.1 hc
                    refine V_iconst (v := 0) dX8_reached_186 (by decide) ?_
                    obtain ⟨hb, h⟩ := h
                    refine V_zast dX8_reached_187 (hS.n 78 rfl) (hS.k 78 11 rfl) (by rw [(hS.z 78 10 rfl)]; exact hb) (q_vz (by decide)) ?_
                    refine V_memI (fun I53 e_I53 => ?_)
                    replace h := h I53 e_I53
                    obtain ⟨v54, e_v54⟩ : ∃ z : Int32, z = (u42 + 1) := ⟨_, rfl⟩
                    replace h := h v54 e_v54
                    refine V_iinc (lo2 := [(4, .int v54), (3, .int 0), (0, .ref 51), (1, .int a1), (2, .int a2), (5, .int u43)]) 4 dX8_reached_188 rfl (v := v54) (by rw [e_v54]; first | done | rfl) (by decide) rfl ?_
                    refine V_goto 19 dX8_reached_191 rfl ?_
                    refine V_sub (lo2 := [(0, .ref 51), (1, .int a1), (2, .int a2), (3, .int 0), (4, .int v54)]) [2, 3, 4, 1, 0] rfl ?_
                    exact ih _ _ _ h
                  · replace h := h.2 hc
                    refine V_iconst (v := 1) dX8_reached_182 (by decide) ?_
                    refine V_goto 187 dX8_reached_183 rfl ?_
                    obtain ⟨hb, h⟩ := h
                    refine V_zast dX8_reached_187 (hS.n 78 rfl) (hS.k 78 11 rfl) (by rw [(hS.z 78 10 rfl)]; exact hb) (q_vz (by decide)) ?_
                    refine V_memI (fun I55 e_I55 => ?_)
                    replace h := h I55 e_I55
                    obtain ⟨v56, e_v56⟩ : ∃ z : Int32, z = (u42 + 1) := ⟨_, rfl⟩
                    replace h := h v56 e_v56
                    refine V_iinc (lo2 := [(4, .int v56), (3, .int 0), (0, .ref 51), (1, .int a1), (2, .int a2), (5, .int u43)]) 4 dX8_reached_188 rfl (v := v56) (by rw [e_v56]; first | done | rfl) (by decide) rfl ?_
                    refine V_goto 19 dX8_reached_191 rfl ?_
                    refine V_sub (lo2 := [(0, .ref 51), (1, .int a1), (2, .int a2), (3, .int 0), (4, .int v56)]) [2, 3, 4, 1, 0] rfl ?_
                    exact ih _ _ _ h
              · replace h := h.2 hc
                refine V_aload_n dX8_reached_145 rfl rfl ?_
                refine V_getr dX8_reached_146 fl_RX8_95 (hS.n 51 rfl) (hS.k 51 8 rfl) rfl (hS.r 51 35 78 rfl) ?_
                refine V_iload dX8_reached_149 rfl ?_
                obtain ⟨hb, h⟩ := h
                refine V_zald dX8_reached_151 (hS.n 78 rfl) (hS.k 78 11 rfl) (by rw [(hS.z 78 10 rfl)]; exact hb) ?_
                refine V_if_ne 159 dX8_reached_152 rfl (fun hc => ?_) (fun hc => ?_)
                · replace h := h.1 hc
                  refine V_iconst (v := 0) dX8_reached_159 (by decide) ?_
                  refine V_istore_n (lo2 := [(3, .int 0), (0, .ref 51), (1, .int a1), (2, .int a2), (4, .int u42), (5, .int u43)]) dX8_reached_160 rfl (by decide) rfl ?_
                  refine V_aload_n dX8_reached_161 rfl rfl ?_
                  refine V_getr dX8_reached_162 fl_RX8_95 (hS.n 51 rfl) (hS.k 51 8 rfl) rfl (hS.r 51 35 78 rfl) ?_
                  refine V_iload dX8_reached_165 rfl ?_
                  refine V_aload_n dX8_reached_167 rfl rfl ?_
                  refine V_getr dX8_reached_168 fl_RX8_95 (hS.n 51 rfl) (hS.k 51 8 rfl) rfl (hS.r 51 35 78 rfl) ?_
                  refine V_iload dX8_reached_171 rfl ?_
                  obtain ⟨hb, h⟩ := h
                  refine V_zald dX8_reached_173 (hS.n 78 rfl) (hS.k 78 11 rfl) (by rw [(hS.z 78 10 rfl)]; exact hb) ?_
                  refine V_if_ne 182 dX8_reached_174 rfl (fun hc => ?_) (fun hc => ?_)
                  · replace h := h.1 hc
                    refine V_iconst (v := 1) dX8_reached_182 (by decide) ?_
                    refine V_goto 187 dX8_reached_183 rfl ?_
                    obtain ⟨hb, h⟩ := h
                    refine V_zast dX8_reached_187 (hS.n 78 rfl) (hS.k 78 11 rfl) (by rw [(hS.z 78 10 rfl)]; exact hb) (q_vz (by decide)) ?_
                    refine V_memI (fun I57 e_I57 => ?_)
                    replace h := h I57 e_I57
                    obtain ⟨v58, e_v58⟩ : ∃ z : Int32, z = (u42 + 1) := ⟨_, rfl⟩
                    replace h := h v58 e_v58
                    refine V_iinc (lo2 := [(4, .int v58), (3, .int 0), (0, .ref 51), (1, .int a1), (2, .int a2), (5, .int u43)]) 4 dX8_reached_188 rfl (v := v58) (by rw [e_v58]; first | done | rfl) (by decide) rfl ?_
                    refine V_goto 19 dX8_reached_191 rfl ?_
                    refine V_sub (lo2 := [(0, .ref 51), (1, .int a1), (2, .int a2), (3, .int 0), (4, .int v58)]) [2, 3, 4, 1, 0] rfl ?_
                    exact ih _ _ _ h
                  · replace h := h.2 hc
                    refine V_iload dX8_reached_177 rfl ?_
                    refine V_if_eq 186 dX8_reached_179 rfl (fun hc => ?_) (fun hc => ?_)
                    · replace h := h.1 hc
                      refine V_iconst (v := 0) dX8_reached_186 (by decide) ?_
                      obtain ⟨hb, h⟩ := h
                      refine V_zast dX8_reached_187 (hS.n 78 rfl) (hS.k 78 11 rfl) (by rw [(hS.z 78 10 rfl)]; exact hb) (q_vz (by decide)) ?_
                      refine V_memI (fun I59 e_I59 => ?_)
                      replace h := h I59 e_I59
                      obtain ⟨v60, e_v60⟩ : ∃ z : Int32, z = (u42 + 1) := ⟨_, rfl⟩
                      replace h := h v60 e_v60
                      refine V_iinc (lo2 := [(4, .int v60), (3, .int 0), (0, .ref 51), (1, .int a1), (2, .int a2), (5, .int u43)]) 4 dX8_reached_188 rfl (v := v60) (by rw [e_v60]; first | done | rfl) (by decide) rfl ?_
                      refine V_goto 19 dX8_reached_191 rfl ?_
                      refine V_sub (lo2 := [(0, .ref 51), (1, .int a1), (2, .int a2), (3, .int 0), (4, .int v60)]) [2, 3, 4, 1, 0] rfl ?_
                      exact ih _ _ _ h
                    · replace h := h.2 hc
                      refine V_iconst (v := 1) dX8_reached_182 (by decide) ?_
                      refine V_goto 187 dX8_reached_183 rfl ?_
                      obtain ⟨hb, h⟩ := h
                      refine V_zast dX8_reached_187 (hS.n 78 rfl) (hS.k 78 11 rfl) (by rw [(hS.z 78 10 rfl)]; exact hb) (q_vz (by decide)) ?_
                      refine V_memI (fun I61 e_I61 => ?_)
                      replace h := h I61 e_I61
                      obtain ⟨v62, e_v62⟩ : ∃ z : Int32, z = (u42 + 1) := ⟨_, rfl⟩
                      replace h := h v62 e_v62
                      refine V_iinc (lo2 := [(4, .int v62), (3, .int 0), (0, .ref 51), (1, .int a1), (2, .int a2), (5, .int u43)]) 4 dX8_reached_188 rfl (v := v62) (by rw [e_v62]; first | done | rfl) (by decide) rfl ?_
                      refine V_goto 19 dX8_reached_191 rfl ?_
                      refine V_sub (lo2 := [(0, .ref 51), (1, .int a1), (2, .int a2), (3, .int 0), (4, .int v62)]) [2, 3, 4, 1, 0] rfl ?_
                      exact ih _ _ _ h
                · replace h := h.2 hc
                  refine V_iconst (v := 1) dX8_reached_155 (by decide) ?_
                  refine V_goto 160 dX8_reached_156 rfl ?_
                  refine V_istore_n (lo2 := [(3, .int 1), (0, .ref 51), (1, .int a1), (2, .int a2), (4, .int u42), (5, .int u43)]) dX8_reached_160 rfl (by decide) rfl ?_
                  refine V_aload_n dX8_reached_161 rfl rfl ?_
                  refine V_getr dX8_reached_162 fl_RX8_95 (hS.n 51 rfl) (hS.k 51 8 rfl) rfl (hS.r 51 35 78 rfl) ?_
                  refine V_iload dX8_reached_165 rfl ?_
                  refine V_aload_n dX8_reached_167 rfl rfl ?_
                  refine V_getr dX8_reached_168 fl_RX8_95 (hS.n 51 rfl) (hS.k 51 8 rfl) rfl (hS.r 51 35 78 rfl) ?_
                  refine V_iload dX8_reached_171 rfl ?_
                  obtain ⟨hb, h⟩ := h
                  refine V_zald dX8_reached_173 (hS.n 78 rfl) (hS.k 78 11 rfl) (by rw [(hS.z 78 10 rfl)]; exact hb) ?_
                  refine V_if_ne 182 dX8_reached_174 rfl (fun hc => ?_) (fun hc => ?_)
                  · replace h := h.1 hc
                    refine V_iconst (v := 1) dX8_reached_182 (by decide) ?_
                    refine V_goto 187 dX8_reached_183 rfl ?_
                    obtain ⟨hb, h⟩ := h
                    refine V_zast dX8_reached_187 (hS.n 78 rfl) (hS.k 78 11 rfl) (by rw [(hS.z 78 10 rfl)]; exact hb) (q_vz (by decide)) ?_
                    refine V_memI (fun I63 e_I63 => ?_)
                    replace h := h I63 e_I63
                    obtain ⟨v64, e_v64⟩ : ∃ z : Int32, z = (u42 + 1) := ⟨_, rfl⟩
                    replace h := h v64 e_v64
                    refine V_iinc (lo2 := [(4, .int v64), (3, .int 1), (0, .ref 51), (1, .int a1), (2, .int a2), (5, .int u43)]) 4 dX8_reached_188 rfl (v := v64) (by rw [e_v64]; first | done | rfl) (by decide) rfl ?_
                    refine V_goto 19 dX8_reached_191 rfl ?_
                    refine V_sub (lo2 := [(0, .ref 51), (1, .int a1), (2, .int a2), (3, .int 1), (4, .int v64)]) [2, 3, 4, 1, 0] rfl ?_
                    exact ih _ _ _ h
                  · replace h := h.2 hc
                    refine V_iload dX8_reached_177 rfl ?_
                    refine V_if_eq 186 dX8_reached_179 rfl (fun hc => ?_) (fun hc => ?_)
                    · replace h := h.1 hc
                      refine V_iconst (v := 0) dX8_reached_186 (by decide) ?_
                      obtain ⟨hb, h⟩ := h
                      refine V_zast dX8_reached_187 (hS.n 78 rfl) (hS.k 78 11 rfl) (by rw [(hS.z 78 10 rfl)]; exact hb) (q_vz (by decide)) ?_
                      refine V_memI (fun I65 e_I65 => ?_)
                      replace h := h I65 e_I65
                      obtain ⟨v66, e_v66⟩ : ∃ z : Int32, z = (u42 + 1) := ⟨_, rfl⟩
                      replace h := h v66 e_v66
                      refine V_iinc (lo2 := [(4, .int v66), (3, .int 1), (0, .ref 51), (1, .int a1), (2, .int a2), (5, .int u43)]) 4 dX8_reached_188 rfl (v := v66) (by rw [e_v66]; first | done | rfl) (by decide) rfl ?_
                      refine V_goto 19 dX8_reached_191 rfl ?_
                      refine V_sub (lo2 := [(0, .ref 51), (1, .int a1), (2, .int a2), (3, .int 1), (4, .int v66)]) [2, 3, 4, 1, 0] rfl ?_
                      exact ih _ _ _ h
                    · replace h := h.2 hc
                      refine V_iconst (v := 1) dX8_reached_182 (by decide) ?_
                      refine V_goto 187 dX8_reached_183 rfl ?_
                      obtain ⟨hb, h⟩ := h
                      refine V_zast dX8_reached_187 (hS.n 78 rfl) (hS.k 78 11 rfl) (by rw [(hS.z 78 10 rfl)]; exact hb) (q_vz (by decide)) ?_
                      refine V_memI (fun I67 e_I67 => ?_)
                      replace h := h I67 e_I67
                      obtain ⟨v68, e_v68⟩ : ∃ z : Int32, z = (u42 + 1) := ⟨_, rfl⟩
                      replace h := h v68 e_v68
                      refine V_iinc (lo2 := [(4, .int v68), (3, .int 1), (0, .ref 51), (1, .int a1), (2, .int a2), (5, .int u43)]) 4 dX8_reached_188 rfl (v := v68) (by rw [e_v68]; first | done | rfl) (by decide) rfl ?_
                      refine V_goto 19 dX8_reached_191 rfl ?_
                      refine V_sub (lo2 := [(0, .ref 51), (1, .int a1), (2, .int a2), (3, .int 1), (4, .int v68)]) [2, 3, 4, 1, 0] rfl ?_
                      exact ih _ _ _ h
        · replace h := h.2 hc
          refine V_iconst (v := 1) dX8_reached_58 (by decide) ?_
          refine V_goto 63 dX8_reached_59 rfl ?_
          refine V_istore (lo2 := [(5, .int 1), (0, .ref 51), (1, .int a1), (2, .int a2), (3, .int x3), (4, .int x4)]) dX8_reached_63 (by decide) rfl ?_
          refine V_iconst (v := 0) dX8_reached_65 (by decide) ?_
          refine V_istore (lo2 := [(6, .int 0), (5, .int 1), (0, .ref 51), (1, .int a1), (2, .int a2), (3, .int x3), (4, .int x4)]) dX8_reached_66 (by decide) rfl ?_
          refine V_sub (lo2 := [(0, .ref 51), (1, .int a1), (2, .int a2), (3, .int x3), (4, .int x4), (5, .int 1), (6, .int 0)]) [2, 3, 4, 5, 6, 1, 0] rfl ?_
          obtain ⟨f9, h⟩ := h
          refine swX8_reached_68 hS ?_ f9 _ _ _ _ _ h
          · intro u69 u70 u71 I72 h
            refine V_iload_n dX8_reached_136 rfl rfl ?_
            refine V_if_ne 155 dX8_reached_137 rfl (fun hc => ?_) (fun hc => ?_)
            · replace h := h.1 hc
              refine V_iconst (v := 1) dX8_reached_155 (by decide) ?_
              refine V_goto 160 dX8_reached_156 rfl ?_
              refine V_istore_n (lo2 := [(3, .int 1), (0, .ref 51), (1, .int a1), (2, .int a2), (4, .int u70), (5, .int u71)]) dX8_reached_160 rfl (by decide) rfl ?_
              refine V_aload_n dX8_reached_161 rfl rfl ?_
              refine V_getr dX8_reached_162 fl_RX8_95 (hS.n 51 rfl) (hS.k 51 8 rfl) rfl (hS.r 51 35 78 rfl) ?_
              refine V_iload dX8_reached_165 rfl ?_
              refine V_aload_n dX8_reached_167 rfl rfl ?_
              refine V_getr dX8_reached_168 fl_RX8_95 (hS.n 51 rfl) (hS.k 51 8 rfl) rfl (hS.r 51 35 78 rfl) ?_
              refine V_iload dX8_reached_171 rfl ?_
              obtain ⟨hb, h⟩ := h
              refine V_zald dX8_reached_173 (hS.n 78 rfl) (hS.k 78 11 rfl) (by rw [(hS.z 78 10 rfl)]; exact hb) ?_
              refine V_if_ne 182 dX8_reached_174 rfl (fun hc => ?_) (fun hc => ?_)
              · replace h := h.1 hc
                refine V_iconst (v := 1) dX8_reached_182 (by decide) ?_
                refine V_goto 187 dX8_reached_183 rfl ?_
                obtain ⟨hb, h⟩ := h
                refine V_zast dX8_reached_187 (hS.n 78 rfl) (hS.k 78 11 rfl) (by rw [(hS.z 78 10 rfl)]; exact hb) (q_vz (by decide)) ?_
                refine V_memI (fun I73 e_I73 => ?_)
                replace h := h I73 e_I73
                obtain ⟨v74, e_v74⟩ : ∃ z : Int32, z = (u70 + 1) := ⟨_, rfl⟩
                replace h := h v74 e_v74
                refine V_iinc (lo2 := [(4, .int v74), (3, .int 1), (0, .ref 51), (1, .int a1), (2, .int a2), (5, .int u71)]) 4 dX8_reached_188 rfl (v := v74) (by rw [e_v74]; first | done | rfl) (by decide) rfl ?_
                refine V_goto 19 dX8_reached_191 rfl ?_
                refine V_sub (lo2 := [(0, .ref 51), (1, .int a1), (2, .int a2), (3, .int 1), (4, .int v74)]) [2, 3, 4, 1, 0] rfl ?_
                exact ih _ _ _ h
              · replace h := h.2 hc
                refine V_iload dX8_reached_177 rfl ?_
                refine V_if_eq 186 dX8_reached_179 rfl (fun hc => ?_) (fun hc => ?_)
                · replace h := h.1 hc
                  refine V_iconst (v := 0) dX8_reached_186 (by decide) ?_
                  obtain ⟨hb, h⟩ := h
                  refine V_zast dX8_reached_187 (hS.n 78 rfl) (hS.k 78 11 rfl) (by rw [(hS.z 78 10 rfl)]; exact hb) (q_vz (by decide)) ?_
                  refine V_memI (fun I75 e_I75 => ?_)
                  replace h := h I75 e_I75
                  obtain ⟨v76, e_v76⟩ : ∃ z : Int32, z = (u70 + 1) := ⟨_, rfl⟩
                  replace h := h v76 e_v76
                  refine V_iinc (lo2 := [(4, .int v76), (3, .int 1), (0, .ref 51), (1, .int a1), (2, .int a2), (5, .int u71)]) 4 dX8_reached_188 rfl (v := v76) (by rw [e_v76]; first | done | rfl) (by decide) rfl ?_
                  refine V_goto 19 dX8_reached_191 rfl ?_
                  refine V_sub (lo2 := [(0, .ref 51), (1, .int a1), (2, .int a2), (3, .int 1), (4, .int v76)]) [2, 3, 4, 1, 0] rfl ?_
                  exact ih _ _ _ h
                · replace h := h.2 hc
                  refine V_iconst (v := 1) dX8_reached_182 (by decide) ?_
                  refine V_goto 187 dX8_reached_183 rfl ?_
                  obtain ⟨hb, h⟩ := h
                  refine V_zast dX8_reached_187 (hS.n 78 rfl) (hS.k 78 11 rfl) (by rw [(hS.z 78 10 rfl)]; exact hb) (q_vz (by decide)) ?_
                  refine V_memI (fun I77 e_I77 => ?_)
                  replace h := h I77 e_I77
                  obtain ⟨v78, e_v78⟩ : ∃ z : Int32, z = (u70 + 1) := ⟨_, rfl⟩
                  replace h := h v78 e_v78
                  refine V_iinc (lo2 := [(4, .int v78), (3, .int 1), (0, .ref 51), (1, .int a1), (2, .int a2), (5, .int u71)]) 4 dX8_reached_188 rfl (v := v78) (by rw [e_v78]; first | done | rfl) (by decide) rfl ?_
                  refine V_goto 19 dX8_reached_191 rfl ?_
                  refine V_sub (lo2 := [(0, .ref 51), (1, .int a1), (2, .int a2), (3, .int 1), (4, .int v78)]) [2, 3, 4, 1, 0] rfl ?_
                  exact ih _ _ _ h
            · replace h := h.2 hc
              refine V_iload dX8_reached_140 rfl ?_
              refine V_if_eq 159 dX8_reached_142 rfl (fun hc => ?_) (fun hc => ?_)
              · replace h := h.1 hc
                refine V_iconst (v := 0) dX8_reached_159 (by decide) ?_
                refine V_istore_n (lo2 := [(3, .int 0), (0, .ref 51), (1, .int a1), (2, .int a2), (4, .int u70), (5, .int u71)]) dX8_reached_160 rfl (by decide) rfl ?_
                refine V_aload_n dX8_reached_161 rfl rfl ?_
                refine V_getr dX8_reached_162 fl_RX8_95 (hS.n 51 rfl) (hS.k 51 8 rfl) rfl (hS.r 51 35 78 rfl) ?_
                refine V_iload dX8_reached_165 rfl ?_
                refine V_aload_n dX8_reached_167 rfl rfl ?_
                refine V_getr dX8_reached_168 fl_RX8_95 (hS.n 51 rfl) (hS.k 51 8 rfl) rfl (hS.r 51 35 78 rfl) ?_
                refine V_iload dX8_reached_171 rfl ?_
                obtain ⟨hb, h⟩ := h
                refine V_zald dX8_reached_173 (hS.n 78 rfl) (hS.k 78 11 rfl) (by rw [(hS.z 78 10 rfl)]; exact hb) ?_
                refine V_if_ne 182 dX8_reached_174 rfl (fun hc => ?_) (fun hc => ?_)
                · replace h := h.1 hc
                  refine V_iconst (v := 1) dX8_reached_182 (by decide) ?_
                  refine V_goto 187 dX8_reached_183 rfl ?_
                  obtain ⟨hb, h⟩ := h
                  refine V_zast dX8_reached_187 (hS.n 78 rfl) (hS.k 78 11 rfl) (by rw [(hS.z 78 10 rfl)]; exact hb) (q_vz (by decide)) ?_
                  refine V_memI (fun I79 e_I79 => ?_)
                  replace h := h I79 e_I79
                  obtain ⟨v80, e_v80⟩ : ∃ z : Int32, z = (u70 + 1) := ⟨_, rfl⟩
                  replace h := h v80 e_v80
                  refine V_iinc (lo2 := [(4, .int v80), (3, .int 0), (0, .ref 51), (1, .int a1), (2, .int a2), (5, .int u71)]) 4 dX8_reached_188 rfl (v := v80) (by rw [e_v80]; first | done | rfl) (by decide) rfl ?_
                  refine V_goto 19 dX8_reached_191 rfl ?_
                  refine V_sub (lo2 := [(0, .ref 51), (1, .int a1), (2, .int a2), (3, .int 0), (4, .int v80)]) [2, 3, 4, 1, 0] rfl ?_
                  exact ih _ _ _ h
                · replace h := h.2 hc
                  refine V_iload dX8_reached_177 rfl ?_
                  refine V_if_eq 186 dX8_reached_179 rfl (fun hc => ?_) (fun hc => ?_)
                  · replace h := h.1 hc
                    refine V_iconst (v := 0) dX8_reached_186 (by decide) ?_
                    obtain ⟨hb, h⟩ := h
                    refine V_zast dX8_reached_187 (hS.n 78 rfl) (hS.k 78 11 rfl) (by rw [(hS.z 78 10 rfl)]; exact hb) (q_vz (by decide)) ?_
                    refine V_memI (fun I81 e_I81 => ?_)
                    replace h := h I81 e_I81
                    obtain ⟨v82, e_v82⟩ : ∃ z : Int32, z = (u70 + 1) := ⟨_, rfl⟩
                    replace h := h v82 e_v82
                    refine V_iinc (lo2 := [(4, .int v82), (3, .int 0), (0, .ref 51), (1, .int a1), (2, .int a2), (5, .int u71)]) 4 dX8_reached_188 rfl (v := v82) (by rw [e_v82]; first | done | rfl) (by decide) rfl ?_
                    refine V_goto 19 dX8_reached_191 rfl ?_
                    refine V_sub (lo2 := [(0, .ref 51), (1, .int a1), (2, .int a2), (3, .int 0), (4, .int v82)]) [2, 3, 4, 1, 0] rfl ?_
                    exact ih _ _ _ h
                  · replace h := h.2 hc
                    refine V_iconst (v := 1) dX8_reached_182 (by decide) ?_
                    refine V_goto 187 dX8_reached_183 rfl ?_
                    obtain ⟨hb, h⟩ := h
                    refine V_zast dX8_reached_187 (hS.n 78 rfl) (hS.k 78 11 rfl) (by rw [(hS.z 78 10 rfl)]; exact hb) (q_vz (by decide)) ?_
                    refine V_memI (fun I83 e_I83 => ?_)
                    replace h := h I83 e_I83
                    obtain ⟨v84, e_v84⟩ : ∃ z : Int32, z = (u70 + 1) := ⟨_, rfl⟩
                    replace h := h v84 e_v84
                    refine V_iinc (lo2 := [(4, .int v84), (3, .int 0), (0, .ref 51), (1, .int a1), (2, .int a2), (5, .int u71)]) 4 dX8_reached_188 rfl (v := v84) (by rw [e_v84]; first | done | rfl) (by decide) rfl ?_
                    refine V_goto 19 dX8_reached_191 rfl ?_
                    refine V_sub (lo2 := [(0, .ref 51), (1, .int a1), (2, .int a2), (3, .int 0), (4, .int v84)]) [2, 3, 4, 1, 0] rfl ?_
                    exact ih _ _ _ h
              · replace h := h.2 hc
                refine V_aload_n dX8_reached_145 rfl rfl ?_
                refine V_getr dX8_reached_146 fl_RX8_95 (hS.n 51 rfl) (hS.k 51 8 rfl) rfl (hS.r 51 35 78 rfl) ?_
                refine V_iload dX8_reached_149 rfl ?_
                obtain ⟨hb, h⟩ := h
                refine V_zald dX8_reached_151 (hS.n 78 rfl) (hS.k 78 11 rfl) (by rw [(hS.z 78 10 rfl)]; exact hb) ?_
                refine V_if_ne 159 dX8_reached_152 rfl (fun hc => ?_) (fun hc => ?_)
                · replace h := h.1 hc
                  refine V_iconst (v := 0) dX8_reached_159 (by decide) ?_
                  refine V_istore_n (lo2 := [(3, .int 0), (0, .ref 51), (1, .int a1), (2, .int a2), (4, .int u70), (5, .int u71)]) dX8_reached_160 rfl (by decide) rfl ?_
                  refine V_aload_n dX8_reached_161 rfl rfl ?_
                  refine V_getr dX8_reached_162 fl_RX8_95 (hS.n 51 rfl) (hS.k 51 8 rfl) rfl (hS.r 51 35 78 rfl) ?_
                  refine V_iload dX8_reached_165 rfl ?_
                  refine V_aload_n dX8_reached_167 rfl rfl ?_
                  refine V_getr dX8_reached_168 fl_RX8_95 (hS.n 51 rfl) (hS.k 51 8 rfl) rfl (hS.r 51 35 78 rfl) ?_
                  refine V_iload dX8_reached_171 rfl ?_
                  obtain ⟨hb, h⟩ := h
                  refine V_zald dX8_reached_173 (hS.n 78 rfl) (hS.k 78 11 rfl) (by rw [(hS.z 78 10 rfl)]; exact hb) ?_
                  refine V_if_ne 182 dX8_reached_174 rfl (fun hc => ?_) (fun hc => ?_)
                  · replace h := h.1 hc
                    refine V_iconst (v := 1) dX8_reached_182 (by decide) ?_
                    refine V_goto 187 dX8_reached_183 rfl ?_
                    obtain ⟨hb, h⟩ := h
                    refine V_zast dX8_reached_187 (hS.n 78 rfl) (hS.k 78 11 rfl) (by rw [(hS.z 78 10 rfl)]; exact hb) (q_vz (by decide)) ?_
                    refine V_memI (fun I85 e_I85 => ?_)
                    replace h := h I85 e_I85
                    obtain ⟨v86, e_v86⟩ : ∃ z : Int32, z = (u70 + 1) := ⟨_, rfl⟩
                    replace h := h v86 e_v86
                    refine V_iinc (lo2 := [(4, .int v86), (3, .int 0), (0, .ref 51), (1, .int a1), (2, .int a2), (5, .int u71)]) 4 dX8_reached_188 rfl (v := v86) (by rw [e_v86]; first | done | rfl) (by decide) rfl ?_
                    refine V_goto 19 dX8_reached_191 rfl ?_
                    refine V_sub (lo2 := [(0, .ref 51), (1, .int a1), (2, .int a2), (3, .int 0), (4, .int v86)]) [2, 3, 4, 1, 0] rfl ?_
                    exact ih _ _ _ h
                  · replace h := h.2 hc
                    refine V_iload dX8_reached_177 rfl ?_
                    refine V_if_eq 186 dX8_reached_179 rfl (fun hc => ?_) (fun hc => ?_)
                    · replace h := h.1 hc
                      refine V_iconst (v := 0) dX8_reached_186 (by decide) ?_
                      obtain ⟨hb, h⟩ := h
                      refine V_zast dX8_reached_187 (hS.n 78 rfl) (hS.k 78 11 rfl) (by rw [(hS.z 78 10 rfl)]; exact hb) (q_vz (by decide)) ?_
                      refine V_memI (fun I87 e_I87 => ?_)
                      replace h := h I87 e_I87
                      obtain ⟨v88, e_v88⟩ : ∃ z : Int32, z = (u70 + 1) := ⟨_, rfl⟩
                      replace h := h v88 e_v88
                      refine V_iinc (lo2 := [(4, .int v88), (3, .int 0), (0, .ref 51), (1, .int a1), (2, .int a2), (5, .int u71)]) 4 dX8_reached_188 rfl (v := v88) (by rw [e_v88]; first | done | rfl) (by decide) rfl ?_
                      refine V_goto 19 dX8_reached_191 rfl ?_
                      refine V_sub (lo2 := [(0, .ref 51), (1, .int a1), (2, .int a2), (3, .int 0), (4, .int v88)]) [2, 3, 4, 1, 0] rfl ?_
                      exact ih _ _ _ h
                    · replace h := h.2 hc
                      refine V_iconst (v := 1) dX8_reached_182 (by decide) ?_
                      refine V_goto 187 dX8_reached_183 rfl ?_
                      obtain ⟨hb, h⟩ := h
                      refine V_zast dX8_reached_187 (hS.n 78 rfl) (hS.k 78 11 rfl) (by rw [(hS.z 78 10 rfl)]; exact hb) (q_vz (by decide)) ?_
                      refine V_memI (fun I89 e_I89 => ?_)
                      replace h := h I89 e_I89
                      obtain ⟨v90, e_v90⟩ : ∃ z : Int32, z = (u70 + 1) := ⟨_, rfl⟩
                      replace h := h v90 e_v90
                      refine V_iinc (lo2 := [(4, .int v90), (3, .int 0), (0, .ref 51), (1, .int a1), (2, .int a2), (5, .int u71)]) 4 dX8_reached_188 rfl (v := v90) (by rw [e_v90]; first | done | rfl) (by decide) rfl ?_
                      refine V_goto 19 dX8_reached_191 rfl ?_
                      refine V_sub (lo2 := [(0, .ref 51), (1, .int a1), (2, .int a2), (3, .int 0), (4, .int v90)]) [2, 3, 4, 1, 0] rfl ?_
                      exact ih _ _ _ h
                · replace h := h.2 hc
                  refine V_iconst (v := 1) dX8_reached_155 (by decide) ?_
                  refine V_goto 160 dX8_reached_156 rfl ?_
                  refine V_istore_n (lo2 := [(3, .int 1), (0, .ref 51), (1, .int a1), (2, .int a2), (4, .int u70), (5, .int u71)]) dX8_reached_160 rfl (by decide) rfl ?_
                  refine V_aload_n dX8_reached_161 rfl rfl ?_
                  refine V_getr dX8_reached_162 fl_RX8_95 (hS.n 51 rfl) (hS.k 51 8 rfl) rfl (hS.r 51 35 78 rfl) ?_
                  refine V_iload dX8_reached_165 rfl ?_
                  refine V_aload_n dX8_reached_167 rfl rfl ?_
                  refine V_getr dX8_reached_168 fl_RX8_95 (hS.n 51 rfl) (hS.k 51 8 rfl) rfl (hS.r 51 35 78 rfl) ?_
                  refine V_iload dX8_reached_171 rfl ?_
                  obtain ⟨hb, h⟩ := h
                  refine V_zald dX8_reached_173 (hS.n 78 rfl) (hS.k 78 11 rfl) (by rw [(hS.z 78 10 rfl)]; exact hb) ?_
                  refine V_if_ne 182 dX8_reached_174 rfl (fun hc => ?_) (fun hc => ?_)
                  · replace h := h.1 hc
                    refine V_iconst (v := 1) dX8_reached_182 (by decide) ?_
                    refine V_goto 187 dX8_reached_183 rfl ?_
                    obtain ⟨hb, h⟩ := h
                    refine V_zast dX8_reached_187 (hS.n 78 rfl) (hS.k 78 11 rfl) (by rw [(hS.z 78 10 rfl)]; exact hb) (q_vz (by decide)) ?_
                    refine V_memI (fun I91 e_I91 => ?_)
                    replace h := h I91 e_I91
                    obtain ⟨v92, e_v92⟩ : ∃ z : Int32, z = (u70 + 1) := ⟨_, rfl⟩
                    replace h := h v92 e_v92
                    refine V_iinc (lo2 := [(4, .int v92), (3, .int 1), (0, .ref 51), (1, .int a1), (2, .int a2), (5, .int u71)]) 4 dX8_reached_188 rfl (v := v92) (by rw [e_v92]; first | done | rfl) (by decide) rfl ?_
                    refine V_goto 19 dX8_reached_191 rfl ?_
                    refine V_sub (lo2 := [(0, .ref 51), (1, .int a1), (2, .int a2), (3, .int 1), (4, .int v92)]) [2, 3, 4, 1, 0] rfl ?_
                    exact ih _ _ _ h
                  · replace h := h.2 hc
                    refine V_iload dX8_reached_177 rfl ?_
                    refine V_if_eq 186 dX8_reached_179 rfl (fun hc => ?_) (fun hc => ?_)
                    · replace h := h.1 hc
                      refine V_iconst (v := 0) dX8_reached_186 (by decide) ?_
                      obtain ⟨hb, h⟩ := h
                      refine V_zast dX8_reached_187 (hS.n 78 rfl) (hS.k 78 11 rfl) (by rw [(hS.z 78 10 rfl)]; exact hb) (q_vz (by decide)) ?_
                      refine V_memI (fun I93 e_I93 => ?_)
                      replace h := h I93 e_I93
                      obtain ⟨v94, e_v94⟩ : ∃ z : Int32, z = (u70 + 1) := ⟨_, rfl⟩
                      replace h := h v94 e_v94
                      refine V_iinc (lo2 := [(4, .int v94), (3, .int 1), (0, .ref 51), (1, .int a1), (2, .int a2), (5, .int u71)]) 4 dX8_reached_188 rfl (v := v94) (by rw [e_v94]; first | done | rfl) (by decide) rfl ?_
                      refine V_goto 19 dX8_reached_191 rfl ?_
                      refine V_sub (lo2 := [(0, .ref 51), (1, .int a1), (2, .int a2), (3, .int 1), (4, .int v94)]) [2, 3, 4, 1, 0] rfl ?_
                      exact ih _ _ _ h
                    · replace h := h.2 hc
                      refine V_iconst (v := 1) dX8_reached_182 (by decide) ?_
                      refine V_goto 187 dX8_reached_183 rfl ?_
                      obtain ⟨hb, h⟩ := h
                      refine V_zast dX8_reached_187 (hS.n 78 rfl) (hS.k 78 11 rfl) (by rw [(hS.z 78 10 rfl)]; exact hb) (q_vz (by decide)) ?_
                      refine V_memI (fun I95 e_I95 => ?_)
                      replace h := h I95 e_I95
                      obtain ⟨v96, e_v96⟩ : ∃ z : Int32, z = (u70 + 1) := ⟨_, rfl⟩
                      replace h := h v96 e_v96
                      refine V_iinc (lo2 := [(4, .int v96), (3, .int 1), (0, .ref 51), (1, .int a1), (2, .int a2), (5, .int u71)]) 4 dX8_reached_188 rfl (v := v96) (by rw [e_v96]; first | done | rfl) (by decide) rfl ?_
                      refine V_goto 19 dX8_reached_191 rfl ?_
                      refine V_sub (lo2 := [(0, .ref 51), (1, .int a1), (2, .int a2), (3, .int 1), (4, .int v96)]) [2, 3, 4, 1, 0] rfl ?_
                      exact ih _ _ _ h
def wX8_reached_10 (a1 : Int32) (a2 : Int32) (K197 : QI → Prop) (post : Int32 → QI → Prop) : Nat → Int32 → QI → Prop
  | 0, _, _ => False
  | n + 1, x3, I => ((x3 = 0 → (K197 I)) ∧ (¬ x3 = 0 → (∃ f : Nat, wX8_reached_19 a1 a2 (fun u97 I98 => (wX8_reached_10 a1 a2 K197 post n u97 I98)) post f 0 0 I)))
set_option maxRecDepth 100000 in
set_option maxHeartbeats 4000000 in
theorem swX8_reached_10 {X : QX} {S : QS} {a1 : Int32} {a2 : Int32} {J : QJ} {K197 : QI → Prop} {post : Int32 → QI → Prop} (hS : Sh S) (hK197 : ∀ (I : QI), K197 I → V X mX8_reached 2 0 0 (q_Pi S (fun r I2 J2 => J = J2 ∧ post r I2)) 197 [(0, .ref 51), (1, .int a1)] [] S I J 0 0) : ∀ (f : Nat) (x3 : Int32) (I : QI), wX8_reached_10 a1 a2 K197 post f x3 I → V X mX8_reached 2 0 0 (q_Pi S (fun r I2 J2 => J = J2 ∧ post r I2)) 10 [(0, .ref 51), (1, .int a1), (2, .int a2), (3, .int x3)] [] S I J 0 0 := by
  intro f
  induction f with
  | zero => intro x3 I h; exact h.elim
  | succ n ih =>
    intro x3 I h
    replace h : ((x3 = 0 → (K197 I)) ∧ (¬ x3 = 0 → (∃ f : Nat, wX8_reached_19 a1 a2 (fun u97 I98 => (wX8_reached_10 a1 a2 K197 post n u97 I98)) post f 0 0 I))) := h
    refine V_iload_n dX8_reached_10 rfl rfl ?_
    refine V_if_eq 197 dX8_reached_11 rfl (fun hc => ?_) (fun hc => ?_)
    · replace h := h.1 hc
      refine V_sub (lo2 := [(0, .ref 51), (1, .int a1)]) [0, 1] rfl ?_
      exact hK197 _ h
    · replace h := h.2 hc
      refine V_iconst (v := 0) dX8_reached_14 (by decide) ?_
      refine V_istore_n (lo2 := [(3, .int 0), (0, .ref 51), (1, .int a1), (2, .int a2)]) dX8_reached_15 rfl (by decide) rfl ?_
      refine V_iconst (v := 0) dX8_reached_16 (by decide) ?_
      refine V_istore (lo2 := [(4, .int 0), (3, .int 0), (0, .ref 51), (1, .int a1), (2, .int a2)]) dX8_reached_17 (by decide) rfl ?_
      refine V_sub (lo2 := [(0, .ref 51), (1, .int a1), (2, .int a2), (3, .int 0), (4, .int 0)]) [2, 3, 4, 1, 0] rfl ?_
      obtain ⟨f9, h⟩ := h
      refine swX8_reached_19 hS ?_ f9 _ _ _ h
      · intro u97 I98 h
        refine V_goto 10 dX8_reached_194 rfl ?_
        exact ih _ _ h
def wX8_reached_226 (a1 : Int32) (a2 : Int32) (K280 : Int32 → Int32 → Int32 → QI → Prop) (post : Int32 → QI → Prop) : Nat → Int32 → Int32 → Int32 → Int32 → QI → Prop
  | 0, _, _, _, _, _ => False
  | n + 1, x4, x5, x6, x7, I => ((x5 ≤ x7 → (K280 x4 x5 x6 I)) ∧ (¬ x5 ≤ x7 → ((x6 = 0 → (∀ v101 : Int32, v101 = (x7 + 1) → (wX8_reached_226 a1 a2 K280 post n x4 x5 0 v101 I))) ∧ (¬ x6 = 0 → (vp_in x7 10 ∧ (((I 78 (x7).toNatClampNeg) = 0 → (∀ v102 : Int32, v102 = (x7 + 1) → (wX8_reached_226 a1 a2 K280 post n x4 x5 1 v102 I))) ∧ (¬ (I 78 (x7).toNatClampNeg) = 0 → (wX8_at a1 x7 1 I (fun r103 => (wX8_at a1 x5 1 I (fun r104 => ((r103 = r104 → (∀ v105 : Int32, v105 = (x7 + 1) → (wX8_reached_226 a1 a2 K280 post n x4 x5 0 v105 I))) ∧ (¬ r103 = r104 → (∀ v106 : Int32, v106 = (x7 + 1) → (wX8_reached_226 a1 a2 K280 post n x4 x5 1 v106 I)))))))))))))))
set_option maxRecDepth 100000 in
set_option maxHeartbeats 4000000 in
theorem swX8_reached_226 {X : QX} {S : QS} {a1 : Int32} {a2 : Int32} {J : QJ} {K280 : Int32 → Int32 → Int32 → QI → Prop} {post : Int32 → QI → Prop} (hS : Sh S) (hK280 : ∀ (z4 : Int32) (z5 : Int32) (z6 : Int32) (I : QI), K280 z4 z5 z6 I → V X mX8_reached 2 0 0 (q_Pi S (fun r I2 J2 => J = J2 ∧ post r I2)) 280 [(0, .ref 51), (1, .int a1), (4, .int z4), (5, .int z5), (6, .int z6)] [] S I J 0 0) : ∀ (f : Nat) (x4 : Int32) (x5 : Int32) (x6 : Int32) (x7 : Int32) (I : QI), wX8_reached_226 a1 a2 K280 post f x4 x5 x6 x7 I → V X mX8_reached 2 0 0 (q_Pi S (fun r I2 J2 => J = J2 ∧ post r I2)) 226 [(0, .ref 51), (1, .int a1), (4, .int x4), (5, .int x5), (6, .int x6), (7, .int x7)] [] S I J 0 0 := by
  intro f
  induction f with
  | zero => intro x4 x5 x6 x7 I h; exact h.elim
  | succ n ih =>
    intro x4 x5 x6 x7 I h
    replace h : ((x5 ≤ x7 → (K280 x4 x5 x6 I)) ∧ (¬ x5 ≤ x7 → ((x6 = 0 → (∀ v101 : Int32, v101 = (x7 + 1) → (wX8_reached_226 a1 a2 K280 post n x4 x5 0 v101 I))) ∧ (¬ x6 = 0 → (vp_in x7 10 ∧ (((I 78 (x7).toNatClampNeg) = 0 → (∀ v102 : Int32, v102 = (x7 + 1) → (wX8_reached_226 a1 a2 K280 post n x4 x5 1 v102 I))) ∧ (¬ (I 78 (x7).toNatClampNeg) = 0 → (wX8_at a1 x7 1 I (fun r103 => (wX8_at a1 x5 1 I (fun r104 => ((r103 = r104 → (∀ v105 : Int32, v105 = (x7 + 1) → (wX8_reached_226 a1 a2 K280 post n x4 x5 0 v105 I))) ∧ (¬ r103 = r104 → (∀ v106 : Int32, v106 = (x7 + 1) → (wX8_reached_226 a1 a2 K280 post n x4 x5 1 v106 I))))))))))))))) := h
    refine V_iload dX8_reached_226 rfl ?_
    refine V_iload dX8_reached_228 rfl ?_
    refine V_icmp_ge 280 dX8_reached_230 rfl (fun hc => ?_) (fun hc => ?_)
    · replace h := h.1 hc
      refine V_sub (lo2 := [(0, .ref 51), (1, .int a1), (4, .int x4), (5, .int x5), (6, .int x6)]) [0, 1, 2, 3, 4] rfl ?_
      exact hK280 _ _ _ _ h
    · replace h := h.2 hc
      refine V_iload dX8_reached_233 rfl ?_
      refine V_if_eq 271 dX8_reached_235 rfl (fun hc => ?_) (fun hc => ?_)
      · replace h := h.1 hc
        refine V_iconst (v := 0) dX8_reached_271 (by decide) ?_
        refine V_istore (lo2 := [(6, .int 0), (0, .ref 51), (1, .int a1), (4, .int x4), (5, .int x5), (7, .int x7)]) dX8_reached_272 (by decide) rfl ?_
        obtain ⟨v101, e_v101⟩ : ∃ z : Int32, z = (x7 + 1) := ⟨_, rfl⟩
        replace h := h v101 e_v101
        refine V_iinc (lo2 := [(7, .int v101), (6, .int 0), (0, .ref 51), (1, .int a1), (4, .int x4), (5, .int x5)]) 5 dX8_reached_274 rfl (v := v101) (by rw [e_v101]; first | done | rfl) (by decide) rfl ?_
        refine V_goto 226 dX8_reached_277 rfl ?_
        refine V_sub (lo2 := [(0, .ref 51), (1, .int a1), (4, .int x4), (5, .int x5), (6, .int 0), (7, .int v101)]) [2, 3, 4, 5, 1, 0] rfl ?_
        exact ih _ _ _ _ _ h
      · replace h := h.2 hc
        refine V_aload_n dX8_reached_238 rfl rfl ?_
        refine V_getr dX8_reached_239 fl_RX8_95 (hS.n 51 rfl) (hS.k 51 8 rfl) rfl (hS.r 51 35 78 rfl) ?_
        refine V_iload dX8_reached_242 rfl ?_
        obtain ⟨hb, h⟩ := h
        refine V_zald dX8_reached_244 (hS.n 78 rfl) (hS.k 78 11 rfl) (by rw [(hS.z 78 10 rfl)]; exact hb) ?_
        refine V_if_eq 267 dX8_reached_245 rfl (fun hc => ?_) (fun hc => ?_)
        · replace h := h.1 hc
          refine V_iconst (v := 1) dX8_reached_267 (by decide) ?_
          refine V_goto 272 dX8_reached_268 rfl ?_
          refine V_istore (lo2 := [(6, .int 1), (0, .ref 51), (1, .int a1), (4, .int x4), (5, .int x5), (7, .int x7)]) dX8_reached_272 (by decide) rfl ?_
          obtain ⟨v102, e_v102⟩ : ∃ z : Int32, z = (x7 + 1) := ⟨_, rfl⟩
          replace h := h v102 e_v102
          refine V_iinc (lo2 := [(7, .int v102), (6, .int 1), (0, .ref 51), (1, .int a1), (4, .int x4), (5, .int x5)]) 5 dX8_reached_274 rfl (v := v102) (by rw [e_v102]; first | done | rfl) (by decide) rfl ?_
          refine V_goto 226 dX8_reached_277 rfl ?_
          refine V_sub (lo2 := [(0, .ref 51), (1, .int a1), (4, .int x4), (5, .int x5), (6, .int 1), (7, .int v102)]) [2, 3, 4, 5, 1, 0] rfl ?_
          exact ih _ _ _ _ _ h
        · replace h := h.2 hc
          refine V_aload_n dX8_reached_248 rfl rfl ?_
          refine V_iload_n dX8_reached_249 rfl rfl ?_
          refine V_iload dX8_reached_250 rfl ?_
          refine V_iconst (v := 1) dX8_reached_252 (by decide) ?_
          refine V_callVi (st := []) [.int a1, .int x7, .int 1] dX8_reached_253 ok_mX8_at rfl ml_RX8_152 in_mX8_at se_mX8_at (hS.n 51 rfl) (hS.k 51 8 rfl) (by decide) rfl (Nat.le_of_ble_eq_true rfl) (by decide) (by decide) (by decide) (s_mX8_at hS h) (fun r103 I9 J9 h => ?_)
          obtain ⟨rfl, rfl, h⟩ := h
          refine V_aload_n dX8_reached_256 rfl rfl ?_
          refine V_iload_n dX8_reached_257 rfl rfl ?_
          refine V_iload dX8_reached_258 rfl ?_
          refine V_iconst (v := 1) dX8_reached_260 (by decide) ?_
          refine V_callVi (st := [.int r103]) [.int a1, .int x5, .int 1] dX8_reached_261 ok_mX8_at rfl ml_RX8_152 in_mX8_at se_mX8_at (hS.n 51 rfl) (hS.k 51 8 rfl) (by decide) rfl (Nat.le_of_ble_eq_true rfl) (by decide) (by decide) (by decide) (s_mX8_at hS h) (fun r104 I9 J9 h => ?_)
          obtain ⟨rfl, rfl, h⟩ := h
          refine V_icmp_eq 271 dX8_reached_264 rfl (fun hc => ?_) (fun hc => ?_)
          · replace h := h.1 hc
            refine V_iconst (v := 0) dX8_reached_271 (by decide) ?_
            refine V_istore (lo2 := [(6, .int 0), (0, .ref 51), (1, .int a1), (4, .int x4), (5, .int x5), (7, .int x7)]) dX8_reached_272 (by decide) rfl ?_
            obtain ⟨v105, e_v105⟩ : ∃ z : Int32, z = (x7 + 1) := ⟨_, rfl⟩
            replace h := h v105 e_v105
            refine V_iinc (lo2 := [(7, .int v105), (6, .int 0), (0, .ref 51), (1, .int a1), (4, .int x4), (5, .int x5)]) 5 dX8_reached_274 rfl (v := v105) (by rw [e_v105]; first | done | rfl) (by decide) rfl ?_
            refine V_goto 226 dX8_reached_277 rfl ?_
            refine V_sub (lo2 := [(0, .ref 51), (1, .int a1), (4, .int x4), (5, .int x5), (6, .int 0), (7, .int v105)]) [2, 3, 4, 5, 1, 0] rfl ?_
            exact ih _ _ _ _ _ h
          · replace h := h.2 hc
            refine V_iconst (v := 1) dX8_reached_267 (by decide) ?_
            refine V_goto 272 dX8_reached_268 rfl ?_
            refine V_istore (lo2 := [(6, .int 1), (0, .ref 51), (1, .int a1), (4, .int x4), (5, .int x5), (7, .int x7)]) dX8_reached_272 (by decide) rfl ?_
            obtain ⟨v106, e_v106⟩ : ∃ z : Int32, z = (x7 + 1) := ⟨_, rfl⟩
            replace h := h v106 e_v106
            refine V_iinc (lo2 := [(7, .int v106), (6, .int 1), (0, .ref 51), (1, .int a1), (4, .int x4), (5, .int x5)]) 5 dX8_reached_274 rfl (v := v106) (by rw [e_v106]; first | done | rfl) (by decide) rfl ?_
            refine V_goto 226 dX8_reached_277 rfl ?_
            refine V_sub (lo2 := [(0, .ref 51), (1, .int a1), (4, .int x4), (5, .int x5), (6, .int 1), (7, .int v106)]) [2, 3, 4, 5, 1, 0] rfl ?_
            exact ih _ _ _ _ _ h
def wX8_reached_203 (a1 : Int32) (a2 : Int32) (post : Int32 → QI → Prop) : Nat → Int32 → Int32 → QI → Prop
  | 0, _, _, _ => False
  | n + 1, x4, x5, I => (vp_in a1 4 ∧ (((I 53 (a1).toNatClampNeg) ≤ x5 → post x4 I) ∧ (¬ (I 53 (a1).toNatClampNeg) ≤ x5 → (vp_in x5 10 ∧ (∀ v100 : Int32, v100 = (I 78 (x5).toNatClampNeg) → (∃ f : Nat, wX8_reached_226 a1 a2 (fun u107 u108 u109 I110 => ((u109 = 0 → (∀ v111 : Int32, v111 = (u107 + 0) → (∀ v112 : Int32, v112 = (u108 + 1) → (wX8_reached_203 a1 a2 post n v111 v112 I110)))) ∧ (¬ u109 = 0 → (∀ v113 : Int32, v113 = (u107 + 1) → (∀ v114 : Int32, v114 = (u108 + 1) → (wX8_reached_203 a1 a2 post n v113 v114 I110)))))) post f x4 x5 v100 0 I))))))
set_option maxRecDepth 100000 in
set_option maxHeartbeats 4000000 in
theorem swX8_reached_203 {X : QX} {S : QS} {a1 : Int32} {a2 : Int32} {J : QJ} {post : Int32 → QI → Prop} (hS : Sh S) : ∀ (f : Nat) (x4 : Int32) (x5 : Int32) (I : QI), wX8_reached_203 a1 a2 post f x4 x5 I → V X mX8_reached 2 0 0 (q_Pi S (fun r I2 J2 => J = J2 ∧ post r I2)) 203 [(0, .ref 51), (1, .int a1), (4, .int x4), (5, .int x5)] [] S I J 0 0 := by
  intro f
  induction f with
  | zero => intro x4 x5 I h; exact h.elim
  | succ n ih =>
    intro x4 x5 I h
    replace h : (vp_in a1 4 ∧ (((I 53 (a1).toNatClampNeg) ≤ x5 → post x4 I) ∧ (¬ (I 53 (a1).toNatClampNeg) ≤ x5 → (vp_in x5 10 ∧ (∀ v100 : Int32, v100 = (I 78 (x5).toNatClampNeg) → (∃ f : Nat, wX8_reached_226 a1 a2 (fun u107 u108 u109 I110 => ((u109 = 0 → (∀ v111 : Int32, v111 = (u107 + 0) → (∀ v112 : Int32, v112 = (u108 + 1) → (wX8_reached_203 a1 a2 post n v111 v112 I110)))) ∧ (¬ u109 = 0 → (∀ v113 : Int32, v113 = (u107 + 1) → (∀ v114 : Int32, v114 = (u108 + 1) → (wX8_reached_203 a1 a2 post n v113 v114 I110)))))) post f x4 x5 v100 0 I)))))) := h
    refine V_iload dX8_reached_203 rfl ?_
    refine V_aload_n dX8_reached_205 rfl rfl ?_
    refine V_getr dX8_reached_206 fl_RX8_13 (hS.n 51 rfl) (hS.k 51 8 rfl) rfl (hS.r 51 3 53 rfl) ?_
    refine V_iload_n dX8_reached_209 rfl rfl ?_
    obtain ⟨hb, h⟩ := h
    refine V_iald dX8_reached_210 (hS.n 53 rfl) (hS.k 53 9 rfl) (by rw [(hS.z 53 4 rfl)]; exact hb) ?_
    refine V_icmp_ge 301 dX8_reached_211 rfl (fun hc => ?_) (fun hc => ?_)
    · replace h := h.1 hc
      refine V_iload dX8_reached_301 rfl ?_
      exact V_iret dX8_reached_303 rfl (by decide) (by decide) ⟨_, rfl, rfl, rfl, h⟩
    · replace h := h.2 hc
      refine V_aload_n dX8_reached_214 rfl rfl ?_
      refine V_getr dX8_reached_215 fl_RX8_95 (hS.n 51 rfl) (hS.k 51 8 rfl) rfl (hS.r 51 35 78 rfl) ?_
      refine V_iload dX8_reached_218 rfl ?_
      obtain ⟨hb, h⟩ := h
      refine V_zald dX8_reached_220 (hS.n 78 rfl) (hS.k 78 11 rfl) (by rw [(hS.z 78 10 rfl)]; exact hb) ?_
      refine V_topi (fun v100 e_v100 => ?_)
      replace h := h v100 e_v100
      refine V_istore (lo2 := [(6, .int v100), (0, .ref 51), (1, .int a1), (4, .int x4), (5, .int x5)]) dX8_reached_221 (by decide) rfl ?_
      refine V_iconst (v := 0) dX8_reached_223 (by decide) ?_
      refine V_istore (lo2 := [(7, .int 0), (6, .int v100), (0, .ref 51), (1, .int a1), (4, .int x4), (5, .int x5)]) dX8_reached_224 (by decide) rfl ?_
      refine V_sub (lo2 := [(0, .ref 51), (1, .int a1), (4, .int x4), (5, .int x5), (6, .int v100), (7, .int 0)]) [2, 3, 4, 5, 1, 0] rfl ?_
      obtain ⟨f9, h⟩ := h
      refine swX8_reached_226 hS ?_ f9 _ _ _ _ _ h
      · intro u107 u108 u109 I110 h
        refine V_iload dX8_reached_280 rfl ?_
        refine V_iload dX8_reached_282 rfl ?_
        refine V_if_eq 291 dX8_reached_284 rfl (fun hc => ?_) (fun hc => ?_)
        · replace h := h.1 hc
          refine V_iconst (v := 0) dX8_reached_291 (by decide) ?_
          refine V_iadd dX8_reached_292 ?_
          refine V_topi (fun v111 e_v111 => ?_)
          replace h := h v111 e_v111
          refine V_istore (lo2 := [(4, .int v111), (0, .ref 51), (1, .int a1), (5, .int u108), (6, .int u109)]) dX8_reached_293 (by decide) rfl ?_
          obtain ⟨v112, e_v112⟩ : ∃ z : Int32, z = (u108 + 1) := ⟨_, rfl⟩
          replace h := h v112 e_v112
          refine V_iinc (lo2 := [(5, .int v112), (4, .int v111), (0, .ref 51), (1, .int a1), (6, .int u109)]) 3 dX8_reached_295 rfl (v := v112) (by rw [e_v112]; first | done | rfl) (by decide) rfl ?_
          refine V_goto 203 dX8_reached_298 rfl ?_
          refine V_sub (lo2 := [(0, .ref 51), (1, .int a1), (4, .int v111), (5, .int v112)]) [2, 3, 1, 0] rfl ?_
          exact ih _ _ _ h
        · replace h := h.2 hc
          refine V_iconst (v := 1) dX8_reached_287 (by decide) ?_
          refine V_goto 292 dX8_reached_288 rfl ?_
          refine V_iadd dX8_reached_292 ?_
          refine V_topi (fun v113 e_v113 => ?_)
          replace h := h v113 e_v113
          refine V_istore (lo2 := [(4, .int v113), (0, .ref 51), (1, .int a1), (5, .int u108), (6, .int u109)]) dX8_reached_293 (by decide) rfl ?_
          obtain ⟨v114, e_v114⟩ : ∃ z : Int32, z = (u108 + 1) := ⟨_, rfl⟩
          replace h := h v114 e_v114
          refine V_iinc (lo2 := [(5, .int v114), (4, .int v113), (0, .ref 51), (1, .int a1), (6, .int u109)]) 3 dX8_reached_295 rfl (v := v114) (by rw [e_v114]; first | done | rfl) (by decide) rfl ?_
          refine V_goto 203 dX8_reached_298 rfl ?_
          refine V_sub (lo2 := [(0, .ref 51), (1, .int a1), (4, .int v113), (5, .int v114)]) [2, 3, 1, 0] rfl ?_
          exact ih _ _ _ h
def wX8_reached (a1 : Int32) (a2 : Int32) (I : QI) (post : Int32 → QI → Prop) : Prop := (wJ7_fill 78 10 0 I (fun I1 => (∃ f : Nat, wX8_reached_10 a1 a2 (fun I99 => (∃ f : Nat, wX8_reached_203 a1 a2 post f 0 0 I99)) post f 1 I1)))
set_option maxRecDepth 100000 in
set_option maxHeartbeats 4000000 in
theorem s_mX8_reached {X : QX} {S : QS} {a1 : Int32} {a2 : Int32} {I : QI} {J : QJ} {post : Int32 → QI → Prop} (hS : Sh S) (h : wX8_reached a1 a2 I post) : CX X mX8_reached 2 0 0 [.ref 51, .int a1, .int a2] S I J (q_Pi S (fun r I2 J2 => J = J2 ∧ post r I2)) := by
  refine CX.of (lo := [(0, .ref 51), (1, .int a1), (2, .int a2)]) ok_mX8_reached rfl (Nat.le_of_ble_eq_true rfl) rfl ?_
  replace h : (wJ7_fill 78 10 0 I (fun I1 => (∃ f : Nat, wX8_reached_10 a1 a2 (fun I99 => (∃ f : Nat, wX8_reached_203 a1 a2 post f 0 0 I99)) post f 1 I1))) := h
  refine V_aload_n dX8_reached_0 rfl rfl ?_
  refine V_getr dX8_reached_1 fl_RX8_95 (hS.n 51 rfl) (hS.k 51 8 rfl) rfl (hS.r 51 35 78 rfl) ?_
  refine V_iconst (v := 0) dX8_reached_4 (by decide) ?_
  refine V_callSv (st := []) [.ref 78, .int 0] dX8_reached_5 ok_mJ7_fill_49daa rfl ml_RX8_166 st_mJ7_fill_49daa (Nat.le_of_ble_eq_true rfl) (by decide) (by decide) (by decide) (s_mJ7_fill (hS.n 78 rfl) (hS.k 78 11 rfl) (hS.z 78 10 rfl) (by decide) h) (fun I1 J9 h => ?_)
  obtain ⟨rfl, h⟩ := h
  refine V_iconst (v := 1) dX8_reached_8 (by decide) ?_
  refine V_istore_n (lo2 := [(3, .int 1), (0, .ref 51), (1, .int a1), (2, .int a2)]) dX8_reached_9 rfl (by decide) rfl ?_
  refine V_sub (lo2 := [(0, .ref 51), (1, .int a1), (2, .int a2), (3, .int 1)]) [1, 2, 3, 0] rfl ?_
  obtain ⟨f9, h⟩ := h
  refine swX8_reached_10 hS ?_ f9 _ _ h
  · intro I99 h
    refine V_iconst (v := 0) dX8_reached_197 (by decide) ?_
    refine V_istore (lo2 := [(4, .int 0), (0, .ref 51), (1, .int a1)]) dX8_reached_198 (by decide) rfl ?_
    refine V_iconst (v := 0) dX8_reached_200 (by decide) ?_
    refine V_istore (lo2 := [(5, .int 0), (4, .int 0), (0, .ref 51), (1, .int a1)]) dX8_reached_201 (by decide) rfl ?_
    refine V_sub (lo2 := [(0, .ref 51), (1, .int a1), (4, .int 0), (5, .int 0)]) [2, 3, 1, 0] rfl ?_
    obtain ⟨f9, h⟩ := h
    refine swX8_reached_203 hS f9 _ _ _ h
def wX8_ways_66 (a1 : Int32) (K120 : Int32 → Int32 → Int32 → QI → Prop) (post : Int32 → QI → Prop) : Nat → Int32 → Int32 → Int32 → Int32 → QI → Prop
  | 0, _, _, _, _, _ => False
  | n + 1, x3, x4, x5, x6, I => ((x4 ≤ x6 → (K120 x3 x4 x5 I)) ∧ (¬ x4 ≤ x6 → ((x5 = 0 → (∀ v5 : Int32, v5 = (x6 + 1) → (wX8_ways_66 a1 K120 post n x3 x4 0 v5 I))) ∧ (¬ x5 = 0 → (wX8_isKnown a1 x6 I (fun r6 => ((r6 = 0 → (∀ v7 : Int32, v7 = (x6 + 1) → (wX8_ways_66 a1 K120 post n x3 x4 1 v7 I))) ∧ (¬ r6 = 0 → (wX8_at a1 x6 0 I (fun r8 => (wX8_at a1 x4 0 I (fun r9 => ((r8 = r9 → (∀ v10 : Int32, v10 = (x6 + 1) → (wX8_ways_66 a1 K120 post n x3 x4 0 v10 I))) ∧ (¬ r8 = r9 → (∀ v11 : Int32, v11 = (x6 + 1) → (wX8_ways_66 a1 K120 post n x3 x4 1 v11 I))))))))))))))))
set_option maxRecDepth 100000 in
set_option maxHeartbeats 4000000 in
theorem swX8_ways_66 {X : QX} {S : QS} {a1 : Int32} {J : QJ} {K120 : Int32 → Int32 → Int32 → QI → Prop} {post : Int32 → QI → Prop} (hS : Sh S) (hK120 : ∀ (z3 : Int32) (z4 : Int32) (z5 : Int32) (I : QI), K120 z3 z4 z5 I → V X mX8_ways 3 0 0 (q_Pi S (fun r I2 J2 => J = J2 ∧ post r I2)) 120 [(0, .ref 51), (1, .int a1), (3, .int z3), (4, .int z4), (5, .int z5)] [] S I J 0 0) : ∀ (f : Nat) (x3 : Int32) (x4 : Int32) (x5 : Int32) (x6 : Int32) (I : QI), wX8_ways_66 a1 K120 post f x3 x4 x5 x6 I → V X mX8_ways 3 0 0 (q_Pi S (fun r I2 J2 => J = J2 ∧ post r I2)) 66 [(0, .ref 51), (1, .int a1), (3, .int x3), (4, .int x4), (5, .int x5), (6, .int x6)] [] S I J 0 0 := by
  intro f
  induction f with
  | zero => intro x3 x4 x5 x6 I h; exact h.elim
  | succ n ih =>
    intro x3 x4 x5 x6 I h
    replace h : ((x4 ≤ x6 → (K120 x3 x4 x5 I)) ∧ (¬ x4 ≤ x6 → ((x5 = 0 → (∀ v5 : Int32, v5 = (x6 + 1) → (wX8_ways_66 a1 K120 post n x3 x4 0 v5 I))) ∧ (¬ x5 = 0 → (wX8_isKnown a1 x6 I (fun r6 => ((r6 = 0 → (∀ v7 : Int32, v7 = (x6 + 1) → (wX8_ways_66 a1 K120 post n x3 x4 1 v7 I))) ∧ (¬ r6 = 0 → (wX8_at a1 x6 0 I (fun r8 => (wX8_at a1 x4 0 I (fun r9 => ((r8 = r9 → (∀ v10 : Int32, v10 = (x6 + 1) → (wX8_ways_66 a1 K120 post n x3 x4 0 v10 I))) ∧ (¬ r8 = r9 → (∀ v11 : Int32, v11 = (x6 + 1) → (wX8_ways_66 a1 K120 post n x3 x4 1 v11 I)))))))))))))))) := h
    refine V_iload dX8_ways_66 rfl ?_
    refine V_iload dX8_ways_68 rfl ?_
    refine V_icmp_ge 120 dX8_ways_70 rfl (fun hc => ?_) (fun hc => ?_)
    · replace h := h.1 hc
      refine V_sub (lo2 := [(0, .ref 51), (1, .int a1), (3, .int x3), (4, .int x4), (5, .int x5)]) [0, 1, 2, 3, 4] rfl ?_
      exact hK120 _ _ _ _ h
    · replace h := h.2 hc
      refine V_iload dX8_ways_73 rfl ?_
      refine V_if_eq 111 dX8_ways_75 rfl (fun hc => ?_) (fun hc => ?_)
      · replace h := h.1 hc
        refine V_iconst (v := 0) dX8_ways_111 (by decide) ?_
        refine V_istore (lo2 := [(5, .int 0), (0, .ref 51), (1, .int a1), (3, .int x3), (4, .int x4), (6, .int x6)]) dX8_ways_112 (by decide) rfl ?_
        obtain ⟨v5, e_v5⟩ : ∃ z : Int32, z = (x6 + 1) := ⟨_, rfl⟩
        replace h := h v5 e_v5
        refine V_iinc (lo2 := [(6, .int v5), (5, .int 0), (0, .ref 51), (1, .int a1), (3, .int x3), (4, .int x4)]) 5 dX8_ways_114 rfl (v := v5) (by rw [e_v5]; first | done | rfl) (by decide) rfl ?_
        refine V_goto 66 dX8_ways_117 rfl ?_
        refine V_sub (lo2 := [(0, .ref 51), (1, .int a1), (3, .int x3), (4, .int x4), (5, .int 0), (6, .int v5)]) [2, 3, 4, 5, 1, 0] rfl ?_
        exact ih _ _ _ _ _ h
      · replace h := h.2 hc
        refine V_aload_n dX8_ways_78 rfl rfl ?_
        refine V_iload_n dX8_ways_79 rfl rfl ?_
        refine V_iload dX8_ways_80 rfl ?_
        refine V_callVi (st := []) [.int a1, .int x6] dX8_ways_82 ok_mX8_isKnown rfl ml_RX8_278 in_mX8_isKnown se_mX8_isKnown (hS.n 51 rfl) (hS.k 51 8 rfl) (by decide) rfl (Nat.le_of_ble_eq_true rfl) (by decide) (by decide) (by decide) (s_mX8_isKnown hS h) (fun r6 I9 J9 h => ?_)
        obtain ⟨rfl, rfl, h⟩ := h
        refine V_if_eq 107 dX8_ways_85 rfl (fun hc => ?_) (fun hc => ?_)
        · replace h := h.1 hc
          refine V_iconst (v := 1) dX8_ways_107 (by decide) ?_
          refine V_goto 112 dX8_ways_108 rfl ?_
          refine V_istore (lo2 := [(5, .int 1), (0, .ref 51), (1, .int a1), (3, .int x3), (4, .int x4), (6, .int x6)]) dX8_ways_112 (by decide) rfl ?_
          obtain ⟨v7, e_v7⟩ : ∃ z : Int32, z = (x6 + 1) := ⟨_, rfl⟩
          replace h := h v7 e_v7
          refine V_iinc (lo2 := [(6, .int v7), (5, .int 1), (0, .ref 51), (1, .int a1), (3, .int x3), (4, .int x4)]) 5 dX8_ways_114 rfl (v := v7) (by rw [e_v7]; first | done | rfl) (by decide) rfl ?_
          refine V_goto 66 dX8_ways_117 rfl ?_
          refine V_sub (lo2 := [(0, .ref 51), (1, .int a1), (3, .int x3), (4, .int x4), (5, .int 1), (6, .int v7)]) [2, 3, 4, 5, 1, 0] rfl ?_
          exact ih _ _ _ _ _ h
        · replace h := h.2 hc
          refine V_aload_n dX8_ways_88 rfl rfl ?_
          refine V_iload_n dX8_ways_89 rfl rfl ?_
          refine V_iload dX8_ways_90 rfl ?_
          refine V_iconst (v := 0) dX8_ways_92 (by decide) ?_
          refine V_callVi (st := []) [.int a1, .int x6, .int 0] dX8_ways_93 ok_mX8_at rfl ml_RX8_152 in_mX8_at se_mX8_at (hS.n 51 rfl) (hS.k 51 8 rfl) (by decide) rfl (Nat.le_of_ble_eq_true rfl) (by decide) (by decide) (by decide) (s_mX8_at hS h) (fun r8 I9 J9 h => ?_)
          obtain ⟨rfl, rfl, h⟩ := h
          refine V_aload_n dX8_ways_96 rfl rfl ?_
          refine V_iload_n dX8_ways_97 rfl rfl ?_
          refine V_iload dX8_ways_98 rfl ?_
          refine V_iconst (v := 0) dX8_ways_100 (by decide) ?_
          refine V_callVi (st := [.int r8]) [.int a1, .int x4, .int 0] dX8_ways_101 ok_mX8_at rfl ml_RX8_152 in_mX8_at se_mX8_at (hS.n 51 rfl) (hS.k 51 8 rfl) (by decide) rfl (Nat.le_of_ble_eq_true rfl) (by decide) (by decide) (by decide) (s_mX8_at hS h) (fun r9 I9 J9 h => ?_)
          obtain ⟨rfl, rfl, h⟩ := h
          refine V_icmp_eq 111 dX8_ways_104 rfl (fun hc => ?_) (fun hc => ?_)
          · replace h := h.1 hc
            refine V_iconst (v := 0) dX8_ways_111 (by decide) ?_
            refine V_istore (lo2 := [(5, .int 0), (0, .ref 51), (1, .int a1), (3, .int x3), (4, .int x4), (6, .int x6)]) dX8_ways_112 (by decide) rfl ?_
            obtain ⟨v10, e_v10⟩ : ∃ z : Int32, z = (x6 + 1) := ⟨_, rfl⟩
            replace h := h v10 e_v10
            refine V_iinc (lo2 := [(6, .int v10), (5, .int 0), (0, .ref 51), (1, .int a1), (3, .int x3), (4, .int x4)]) 5 dX8_ways_114 rfl (v := v10) (by rw [e_v10]; first | done | rfl) (by decide) rfl ?_
            refine V_goto 66 dX8_ways_117 rfl ?_
            refine V_sub (lo2 := [(0, .ref 51), (1, .int a1), (3, .int x3), (4, .int x4), (5, .int 0), (6, .int v10)]) [2, 3, 4, 5, 1, 0] rfl ?_
            exact ih _ _ _ _ _ h
          · replace h := h.2 hc
            refine V_iconst (v := 1) dX8_ways_107 (by decide) ?_
            refine V_goto 112 dX8_ways_108 rfl ?_
            refine V_istore (lo2 := [(5, .int 1), (0, .ref 51), (1, .int a1), (3, .int x3), (4, .int x4), (6, .int x6)]) dX8_ways_112 (by decide) rfl ?_
            obtain ⟨v11, e_v11⟩ : ∃ z : Int32, z = (x6 + 1) := ⟨_, rfl⟩
            replace h := h v11 e_v11
            refine V_iinc (lo2 := [(6, .int v11), (5, .int 1), (0, .ref 51), (1, .int a1), (3, .int x3), (4, .int x4)]) 5 dX8_ways_114 rfl (v := v11) (by rw [e_v11]; first | done | rfl) (by decide) rfl ?_
            refine V_goto 66 dX8_ways_117 rfl ?_
            refine V_sub (lo2 := [(0, .ref 51), (1, .int a1), (3, .int x3), (4, .int x4), (5, .int 1), (6, .int v11)]) [2, 3, 4, 5, 1, 0] rfl ?_
            exact ih _ _ _ _ _ h
def wX8_ways_43 (a1 : Int32) (post : Int32 → QI → Prop) : Nat → Int32 → Int32 → QI → Prop
  | 0, _, _, _ => False
  | n + 1, x3, x4, I => (vp_in a1 4 ∧ (((I 53 (a1).toNatClampNeg) ≤ x4 → post x3 I) ∧ (¬ (I 53 (a1).toNatClampNeg) ≤ x4 → (wX8_isKnown a1 x4 I (fun r4 => (∃ f : Nat, wX8_ways_66 a1 (fun u12 u13 u14 I15 => ((u14 = 0 → (∀ v16 : Int32, v16 = (u12 + 0) → (∀ v17 : Int32, v17 = (u13 + 1) → (wX8_ways_43 a1 post n v16 v17 I15)))) ∧ (¬ u14 = 0 → (wX8_reached a1 u13 I15 (fun r19 I18 => (∀ v20 : Int32, v20 = (u12 + r19) → (∀ v21 : Int32, v21 = (u13 + 1) → (wX8_ways_43 a1 post n v20 v21 I18)))))))) post f x3 x4 r4 0 I))))))
set_option maxRecDepth 100000 in
set_option maxHeartbeats 4000000 in
theorem swX8_ways_43 {X : QX} {S : QS} {a1 : Int32} {J : QJ} {post : Int32 → QI → Prop} (hS : Sh S) : ∀ (f : Nat) (x3 : Int32) (x4 : Int32) (I : QI), wX8_ways_43 a1 post f x3 x4 I → V X mX8_ways 3 0 0 (q_Pi S (fun r I2 J2 => J = J2 ∧ post r I2)) 43 [(0, .ref 51), (1, .int a1), (3, .int x3), (4, .int x4)] [] S I J 0 0 := by
  intro f
  induction f with
  | zero => intro x3 x4 I h; exact h.elim
  | succ n ih =>
    intro x3 x4 I h
    replace h : (vp_in a1 4 ∧ (((I 53 (a1).toNatClampNeg) ≤ x4 → post x3 I) ∧ (¬ (I 53 (a1).toNatClampNeg) ≤ x4 → (wX8_isKnown a1 x4 I (fun r4 => (∃ f : Nat, wX8_ways_66 a1 (fun u12 u13 u14 I15 => ((u14 = 0 → (∀ v16 : Int32, v16 = (u12 + 0) → (∀ v17 : Int32, v17 = (u13 + 1) → (wX8_ways_43 a1 post n v16 v17 I15)))) ∧ (¬ u14 = 0 → (wX8_reached a1 u13 I15 (fun r19 I18 => (∀ v20 : Int32, v20 = (u12 + r19) → (∀ v21 : Int32, v21 = (u13 + 1) → (wX8_ways_43 a1 post n v20 v21 I18)))))))) post f x3 x4 r4 0 I)))))) := h
    refine V_iload dX8_ways_43 rfl ?_
    refine V_aload_n dX8_ways_45 rfl rfl ?_
    refine V_getr dX8_ways_46 fl_RX8_13 (hS.n 51 rfl) (hS.k 51 8 rfl) rfl (hS.r 51 3 53 rfl) ?_
    refine V_iload_n dX8_ways_49 rfl rfl ?_
    obtain ⟨hb, h⟩ := h
    refine V_iald dX8_ways_50 (hS.n 53 rfl) (hS.k 53 9 rfl) (by rw [(hS.z 53 4 rfl)]; exact hb) ?_
    refine V_icmp_ge 145 dX8_ways_51 rfl (fun hc => ?_) (fun hc => ?_)
    · replace h := h.1 hc
      refine V_iload_n dX8_ways_145 rfl rfl ?_
      exact V_iret dX8_ways_146 rfl (by decide) (by decide) ⟨_, rfl, rfl, rfl, h⟩
    · replace h := h.2 hc
      refine V_aload_n dX8_ways_54 rfl rfl ?_
      refine V_iload_n dX8_ways_55 rfl rfl ?_
      refine V_iload dX8_ways_56 rfl ?_
      refine V_callVi (st := []) [.int a1, .int x4] dX8_ways_58 ok_mX8_isKnown rfl ml_RX8_278 in_mX8_isKnown se_mX8_isKnown (hS.n 51 rfl) (hS.k 51 8 rfl) (by decide) rfl (Nat.le_of_ble_eq_true rfl) (by decide) (by decide) (by decide) (s_mX8_isKnown hS h) (fun r4 I9 J9 h => ?_)
      obtain ⟨rfl, rfl, h⟩ := h
      refine V_istore (lo2 := [(5, .int r4), (0, .ref 51), (1, .int a1), (3, .int x3), (4, .int x4)]) dX8_ways_61 (by decide) rfl ?_
      refine V_iconst (v := 0) dX8_ways_63 (by decide) ?_
      refine V_istore (lo2 := [(6, .int 0), (5, .int r4), (0, .ref 51), (1, .int a1), (3, .int x3), (4, .int x4)]) dX8_ways_64 (by decide) rfl ?_
      refine V_sub (lo2 := [(0, .ref 51), (1, .int a1), (3, .int x3), (4, .int x4), (5, .int r4), (6, .int 0)]) [2, 3, 4, 5, 1, 0] rfl ?_
      obtain ⟨f9, h⟩ := h
      refine swX8_ways_66 hS ?_ f9 _ _ _ _ _ h
      · intro u12 u13 u14 I15 h
        refine V_iload_n dX8_ways_120 rfl rfl ?_
        refine V_iload dX8_ways_121 rfl ?_
        refine V_if_eq 136 dX8_ways_123 rfl (fun hc => ?_) (fun hc => ?_)
        · replace h := h.1 hc
          refine V_iconst (v := 0) dX8_ways_136 (by decide) ?_
          refine V_iadd dX8_ways_137 ?_
          refine V_topi (fun v16 e_v16 => ?_)
          replace h := h v16 e_v16
          refine V_istore_n (lo2 := [(3, .int v16), (0, .ref 51), (1, .int a1), (4, .int u13), (5, .int u14)]) dX8_ways_138 rfl (by decide) rfl ?_
          obtain ⟨v17, e_v17⟩ : ∃ z : Int32, z = (u13 + 1) := ⟨_, rfl⟩
          replace h := h v17 e_v17
          refine V_iinc (lo2 := [(4, .int v17), (3, .int v16), (0, .ref 51), (1, .int a1), (5, .int u14)]) 3 dX8_ways_139 rfl (v := v17) (by rw [e_v17]; first | done | rfl) (by decide) rfl ?_
          refine V_goto 43 dX8_ways_142 rfl ?_
          refine V_sub (lo2 := [(0, .ref 51), (1, .int a1), (3, .int v16), (4, .int v17)]) [2, 3, 1, 0] rfl ?_
          exact ih _ _ _ h
        · replace h := h.2 hc
          refine V_aload_n dX8_ways_126 rfl rfl ?_
          refine V_iload_n dX8_ways_127 rfl rfl ?_
          refine V_iload dX8_ways_128 rfl ?_
          refine V_callVi (st := [.int u12]) [.int a1, .int u13] dX8_ways_130 ok_mX8_reached rfl ml_RX8_281 in_mX8_reached se_mX8_reached (hS.n 51 rfl) (hS.k 51 8 rfl) (by decide) rfl (Nat.le_of_ble_eq_true rfl) (by decide) (by decide) (by decide) (s_mX8_reached hS h) (fun r19 I18 J9 h => ?_)
          obtain ⟨rfl, h⟩ := h
          refine V_goto 137 dX8_ways_133 rfl ?_
          refine V_iadd dX8_ways_137 ?_
          refine V_topi (fun v20 e_v20 => ?_)
          replace h := h v20 e_v20
          refine V_istore_n (lo2 := [(3, .int v20), (0, .ref 51), (1, .int a1), (4, .int u13), (5, .int u14)]) dX8_ways_138 rfl (by decide) rfl ?_
          obtain ⟨v21, e_v21⟩ : ∃ z : Int32, z = (u13 + 1) := ⟨_, rfl⟩
          replace h := h v21 e_v21
          refine V_iinc (lo2 := [(4, .int v21), (3, .int v20), (0, .ref 51), (1, .int a1), (5, .int u14)]) 3 dX8_ways_139 rfl (v := v21) (by rw [e_v21]; first | done | rfl) (by decide) rfl ?_
          refine V_goto 43 dX8_ways_142 rfl ?_
          refine V_sub (lo2 := [(0, .ref 51), (1, .int a1), (3, .int v20), (4, .int v21)]) [2, 3, 1, 0] rfl ?_
          exact ih _ _ _ h
def wX8_ways (a1 : Int32) (I : QI) (post : Int32 → QI → Prop) : Prop := (wX8_isTable a1 I (fun r1 => ((¬ r1 = 0 → (vp_in a1 4 ∧ ((2 ≤ (I 52 (a1).toNatClampNeg) → (wX8_goesWell 0 I (fun r3 I2 => ((¬ r3 = 0 → (∃ f : Nat, wX8_ways_43 a1 post f 0 0 I2)) ∧ (r3 = 0 → post 0 I2))))) ∧ (¬ 2 ≤ (I 52 (a1).toNatClampNeg) → (wX8_goesWell 2 I (fun r23 I22 => ((¬ r23 = 0 → (∃ f : Nat, wX8_ways_43 a1 post f 0 0 I22)) ∧ (r23 = 0 → post 0 I22)))))))) ∧ (r1 = 0 → (wX8_goesWell 1 I (fun r25 I24 => ((¬ r25 = 0 → (∃ f : Nat, wX8_ways_43 a1 post f 0 0 I24)) ∧ (r25 = 0 → post 0 I24))))))))
set_option maxRecDepth 100000 in
set_option maxHeartbeats 4000000 in
theorem s_mX8_ways {X : QX} {S : QS} {a1 : Int32} {I : QI} {J : QJ} {post : Int32 → QI → Prop} (hS : Sh S) (h : wX8_ways a1 I post) : CX X mX8_ways 3 0 0 [.ref 51, .int a1] S I J (q_Pi S (fun r I2 J2 => J = J2 ∧ post r I2)) := by
  refine CX.of (lo := [(0, .ref 51), (1, .int a1)]) ok_mX8_ways rfl (Nat.le_of_ble_eq_true rfl) rfl ?_
  replace h : (wX8_isTable a1 I (fun r1 => ((¬ r1 = 0 → (vp_in a1 4 ∧ ((2 ≤ (I 52 (a1).toNatClampNeg) → (wX8_goesWell 0 I (fun r3 I2 => ((¬ r3 = 0 → (∃ f : Nat, wX8_ways_43 a1 post f 0 0 I2)) ∧ (r3 = 0 → post 0 I2))))) ∧ (¬ 2 ≤ (I 52 (a1).toNatClampNeg) → (wX8_goesWell 2 I (fun r23 I22 => ((¬ r23 = 0 → (∃ f : Nat, wX8_ways_43 a1 post f 0 0 I22)) ∧ (r23 = 0 → post 0 I22)))))))) ∧ (r1 = 0 → (wX8_goesWell 1 I (fun r25 I24 => ((¬ r25 = 0 → (∃ f : Nat, wX8_ways_43 a1 post f 0 0 I24)) ∧ (r25 = 0 → post 0 I24)))))))) := h
  refine V_aload_n dX8_ways_0 rfl rfl ?_
  refine V_iload_n dX8_ways_1 rfl rfl ?_
  refine V_callVi (st := []) [.int a1] dX8_ways_2 ok_mX8_isTable rfl ml_RX8_108 in_mX8_isTable se_mX8_isTable (hS.n 51 rfl) (hS.k 51 8 rfl) (by decide) rfl (Nat.le_of_ble_eq_true rfl) (by decide) (by decide) (by decide) (s_mX8_isTable hS h) (fun r1 I9 J9 h => ?_)
  obtain ⟨rfl, rfl, h⟩ := h
  refine V_istore_n (lo2 := [(2, .int r1), (0, .ref 51), (1, .int a1)]) dX8_ways_5 rfl (by decide) rfl ?_
  refine V_aload_n dX8_ways_6 rfl rfl ?_
  refine V_iload_n dX8_ways_7 rfl rfl ?_
  refine V_if_ne 15 dX8_ways_8 rfl (fun hc => ?_) (fun hc => ?_)
  · replace h := h.1 hc
    refine V_aload_n dX8_ways_15 rfl rfl ?_
    refine V_getr dX8_ways_16 fl_RX8_9 (hS.n 51 rfl) (hS.k 51 8 rfl) rfl (hS.r 51 2 52 rfl) ?_
    refine V_iload_n dX8_ways_19 rfl rfl ?_
    obtain ⟨hb, h⟩ := h
    refine V_iald dX8_ways_20 (hS.n 52 rfl) (hS.k 52 9 rfl) (by rw [(hS.z 52 4 rfl)]; exact hb) ?_
    refine V_iconst (v := 2) dX8_ways_21 (by decide) ?_
    refine V_icmp_ge 29 dX8_ways_22 rfl (fun hc => ?_) (fun hc => ?_)
    · replace h := h.1 hc
      refine V_iconst (v := 0) dX8_ways_29 (by decide) ?_
      refine V_callVi (st := []) [.int 0] dX8_ways_30 ok_mX8_goesWell rfl ml_RX8_112 in_mX8_goesWell se_mX8_goesWell (hS.n 51 rfl) (hS.k 51 8 rfl) (by decide) rfl (Nat.le_of_ble_eq_true rfl) (by decide) (by decide) (by decide) (s_mX8_goesWell hS h) (fun r3 I2 J9 h => ?_)
      obtain ⟨rfl, h⟩ := h
      refine V_if_ne 38 dX8_ways_33 rfl (fun hc => ?_) (fun hc => ?_)
      · replace h := h.1 hc
        refine V_iconst (v := 0) dX8_ways_38 (by decide) ?_
        refine V_istore_n (lo2 := [(3, .int 0), (2, .int r1), (0, .ref 51), (1, .int a1)]) dX8_ways_39 rfl (by decide) rfl ?_
        refine V_iconst (v := 0) dX8_ways_40 (by decide) ?_
        refine V_istore (lo2 := [(4, .int 0), (3, .int 0), (2, .int r1), (0, .ref 51), (1, .int a1)]) dX8_ways_41 (by decide) rfl ?_
        refine V_sub (lo2 := [(0, .ref 51), (1, .int a1), (3, .int 0), (4, .int 0)]) [3, 4, 1, 0] rfl ?_
        obtain ⟨f9, h⟩ := h
        refine swX8_ways_43 hS f9 _ _ _ h
      · replace h := h.2 hc
        refine V_iconst (v := 0) dX8_ways_36 (by decide) ?_
        exact V_iret dX8_ways_37 rfl (by decide) (by decide) ⟨_, rfl, rfl, rfl, h⟩
    · replace h := h.2 hc
      refine V_iconst (v := 2) dX8_ways_25 (by decide) ?_
      refine V_goto 30 dX8_ways_26 rfl ?_
      refine V_callVi (st := []) [.int 2] dX8_ways_30 ok_mX8_goesWell rfl ml_RX8_112 in_mX8_goesWell se_mX8_goesWell (hS.n 51 rfl) (hS.k 51 8 rfl) (by decide) rfl (Nat.le_of_ble_eq_true rfl) (by decide) (by decide) (by decide) (s_mX8_goesWell hS h) (fun r23 I22 J9 h => ?_)
      obtain ⟨rfl, h⟩ := h
      refine V_if_ne 38 dX8_ways_33 rfl (fun hc => ?_) (fun hc => ?_)
      · replace h := h.1 hc
        refine V_iconst (v := 0) dX8_ways_38 (by decide) ?_
        refine V_istore_n (lo2 := [(3, .int 0), (2, .int r1), (0, .ref 51), (1, .int a1)]) dX8_ways_39 rfl (by decide) rfl ?_
        refine V_iconst (v := 0) dX8_ways_40 (by decide) ?_
        refine V_istore (lo2 := [(4, .int 0), (3, .int 0), (2, .int r1), (0, .ref 51), (1, .int a1)]) dX8_ways_41 (by decide) rfl ?_
        refine V_sub (lo2 := [(0, .ref 51), (1, .int a1), (3, .int 0), (4, .int 0)]) [3, 4, 1, 0] rfl ?_
        obtain ⟨f9, h⟩ := h
        refine swX8_ways_43 hS f9 _ _ _ h
      · replace h := h.2 hc
        refine V_iconst (v := 0) dX8_ways_36 (by decide) ?_
        exact V_iret dX8_ways_37 rfl (by decide) (by decide) ⟨_, rfl, rfl, rfl, h⟩
  · replace h := h.2 hc
    refine V_iconst (v := 1) dX8_ways_11 (by decide) ?_
    refine V_goto 30 dX8_ways_12 rfl ?_
    refine V_callVi (st := []) [.int 1] dX8_ways_30 ok_mX8_goesWell rfl ml_RX8_112 in_mX8_goesWell se_mX8_goesWell (hS.n 51 rfl) (hS.k 51 8 rfl) (by decide) rfl (Nat.le_of_ble_eq_true rfl) (by decide) (by decide) (by decide) (s_mX8_goesWell hS h) (fun r25 I24 J9 h => ?_)
    obtain ⟨rfl, h⟩ := h
    refine V_if_ne 38 dX8_ways_33 rfl (fun hc => ?_) (fun hc => ?_)
    · replace h := h.1 hc
      refine V_iconst (v := 0) dX8_ways_38 (by decide) ?_
      refine V_istore_n (lo2 := [(3, .int 0), (2, .int r1), (0, .ref 51), (1, .int a1)]) dX8_ways_39 rfl (by decide) rfl ?_
      refine V_iconst (v := 0) dX8_ways_40 (by decide) ?_
      refine V_istore (lo2 := [(4, .int 0), (3, .int 0), (2, .int r1), (0, .ref 51), (1, .int a1)]) dX8_ways_41 (by decide) rfl ?_
      refine V_sub (lo2 := [(0, .ref 51), (1, .int a1), (3, .int 0), (4, .int 0)]) [3, 4, 1, 0] rfl ?_
      obtain ⟨f9, h⟩ := h
      refine swX8_ways_43 hS f9 _ _ _ h
    · replace h := h.2 hc
      refine V_iconst (v := 0) dX8_ways_36 (by decide) ?_
      exact V_iret dX8_ways_37 rfl (by decide) (by decide) ⟨_, rfl, rfl, rfl, h⟩
