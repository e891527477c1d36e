def w_X7_init_at0 (S : QS) (I : QI) (J : QJ) (post : QS → QI → QJ → Prop) : Prop := (∀ a2 : Nat, ∀ S1 : QS, S1 = q_nS S a2 4 0 → (∀ I3 : QI, I3 = q_rw I 1 (fun _ => 0) → (w_X4_init_at1 S1 I3 J (fun S4 I5 J6 => (∀ S7 : QS, S7 = q_sR S4 (q_u2 S4.2.2.2.2 0 0 (some 1)) → (∀ a9 : Nat, ∀ S8 : QS, S8 = q_nS S7 a9 2 0 → (∀ I10 : QI, I10 = q_rw I5 15 (fun _ => 0) → (w_X2_init_at15 S8 I10 J6 (fun S11 I12 J13 => (∀ S14 : QS, S14 = q_sR S11 (q_u2 S11.2.2.2.2 0 1 (some 15)) → (∀ a16 : Nat, ∀ S15 : QS, S15 = q_nS S14 a16 0 0 → (∀ I17 : QI, I17 = q_rw I12 23 (fun _ => 0) → (w_X0_init_at23 S15 I17 J13 (fun S18 I19 J20 => (∀ S21 : QS, S21 = q_sR S18 (q_u2 S18.2.2.2.2 0 2 (some 23)) → (∀ a23 : Nat, ∀ S22 : QS, S22 = q_nS S21 a23 3 0 → (∀ I24 : QI, I24 = q_rw I19 30 (fun _ => 0) → (w_X3_init_at30 S22 I24 J20 (fun S25 I26 J27 => (∀ S28 : QS, S28 = q_sR S25 (q_u2 S25.2.2.2.2 0 3 (some 30)) → (∀ a30 : Nat, ∀ S29 : QS, S29 = q_nS S28 a30 1 0 → (∀ I31 : QI, I31 = q_rw I26 37 (fun _ => 0) → (w_X1_init_at37 S29 I31 J27 (fun S32 I33 J34 => (∀ S35 : QS, S35 = q_sR S32 (q_u2 S32.2.2.2.2 0 4 (some 37)) → (∀ a37 : Nat, ∀ S36 : QS, S36 = q_nS S35 a37 6 0 → (∀ I38 : QI, I38 = q_rw I33 46 (fun _ => 0) → (w_X6_init_at46 S36 I38 J34 (fun S39 I40 J41 => (∀ S42 : QS, S42 = q_sR S39 (q_u2 S39.2.2.2.2 0 5 (some 46)) → (∀ I43 : QI, I43 = q_u2 I40 0 6 100000 → (post S42 I43 J41))))))))))))))))))))))))))))))))
set_option maxRecDepth 100000 in
set_option maxHeartbeats 4000000 in
theorem s_X7_init_at0 {X : QX} {S : QS} {I : QI} {J : QJ} {post : QS → QI → QJ → Prop} (hN : S.2.1 = 1) (hc : q_cl S) (hK0 : S.2.2.1 0 = 7) (h : w_X7_init_at0 S I J post) : CX X mX7_init 3 50 37107 [.ref 0] S I J (q_Pk 0 S 50 post) := by
  have hN0 := hN
  have hE : Ex S S := Ex.rf
  have hR : q_Rk 0 S S := q_Rk.rf
  refine CX.of (lo := [(0, .ref 0)]) ok_mX7_init rfl (Nat.le_of_ble_eq_true rfl) rfl ?_
  replace h : (∀ a2 : Nat, ∀ S1 : QS, S1 = q_nS S a2 4 0 → (∀ I3 : QI, I3 = q_rw I 1 (fun _ => 0) → (w_X4_init_at1 S1 I3 J (fun S4 I5 J6 => (∀ S7 : QS, S7 = q_sR S4 (q_u2 S4.2.2.2.2 0 0 (some 1)) → (∀ a9 : Nat, ∀ S8 : QS, S8 = q_nS S7 a9 2 0 → (∀ I10 : QI, I10 = q_rw I5 15 (fun _ => 0) → (w_X2_init_at15 S8 I10 J6 (fun S11 I12 J13 => (∀ S14 : QS, S14 = q_sR S11 (q_u2 S11.2.2.2.2 0 1 (some 15)) → (∀ a16 : Nat, ∀ S15 : QS, S15 = q_nS S14 a16 0 0 → (∀ I17 : QI, I17 = q_rw I12 23 (fun _ => 0) → (w_X0_init_at23 S15 I17 J13 (fun S18 I19 J20 => (∀ S21 : QS, S21 = q_sR S18 (q_u2 S18.2.2.2.2 0 2 (some 23)) → (∀ a23 : Nat, ∀ S22 : QS, S22 = q_nS S21 a23 3 0 → (∀ I24 : QI, I24 = q_rw I19 30 (fun _ => 0) → (w_X3_init_at30 S22 I24 J20 (fun S25 I26 J27 => (∀ S28 : QS, S28 = q_sR S25 (q_u2 S25.2.2.2.2 0 3 (some 30)) → (∀ a30 : Nat, ∀ S29 : QS, S29 = q_nS S28 a30 1 0 → (∀ I31 : QI, I31 = q_rw I26 37 (fun _ => 0) → (w_X1_init_at37 S29 I31 J27 (fun S32 I33 J34 => (∀ S35 : QS, S35 = q_sR S32 (q_u2 S32.2.2.2.2 0 4 (some 37)) → (∀ a37 : Nat, ∀ S36 : QS, S36 = q_nS S35 a37 6 0 → (∀ I38 : QI, I38 = q_rw I33 46 (fun _ => 0) → (w_X6_init_at46 S36 I38 J34 (fun S39 I40 J41 => (∀ S42 : QS, S42 = q_sR S39 (q_u2 S39.2.2.2.2 0 5 (some 46)) → (∀ I43 : QI, I43 = q_u2 I40 0 6 100000 → (post S42 I43 J41)))))))))))))))))))))))))))))))) := h
  refine V_aload_n dX7_init_0 rfl rfl ?_
  refine V_objInit dX7_init_1 ml_RX7_1 ob_in ob_co (Nat.le_of_ble_eq_true rfl) ?_
  refine V_aload_n dX7_init_4 rfl rfl ?_
  refine V_new (ci := 4) dX7_init_5 (by decide) cl_RX7_7 is_RX4 ii_RX4 (by rw [hN]; decide) hc (q_vbn hN rfl) (q_vbn hN rfl) (by decide) (by decide) (fun a2 => ?_)
  rw [hN]
  refine V_memS (fun S1 e_S1 => ?_)
  refine V_memI (fun I3 e_I3 => ?_)
  replace h := h a2 S1 e_S1 I3 e_I3
  have hM9 := hN
  have hN9 : S1.2.1 = 2 := by rw [e_S1]; show _ + 1 = 2; rw [hN]
  have hc9 : q_cl S1 := by rw [e_S1]; exact q_cl_new hc _ _ _
  have hE9 : Ex S S1 := by rw [e_S1]; exact hE.tr (Ex.new _ (by rw [hN]; decide) _ _ _)
  have hR9 : q_Rk 0 S S1 := by rw [e_S1]; exact hR.new hE.1 _ _ _
  have hK09 : S1.2.2.1 0 = 7 := by rw [e_S1]; exact (if_neg (by rw [hN]; decide)).trans hK0
  clear hc hE hR hK0  
  have hN := hN9
  have hc := hc9
  have hE := hE9
  have hR := hR9
  have hK0 := hK09
  have hK1 : S1.2.2.1 1 = 4 := by rw [e_S1]; exact if_pos hM9.symm
  clear hM9
  refine V_dup dX7_init_8 rfl ?_
  refine V_callIk (st := [.ref 1, .ref 0]) [] dX7_init_9 ok_mX4_init rfl ml_RX7_9 in_mX4_init rfl rfl (Nat.le_of_ble_eq_true rfl) (by decide) (by decide) (by decide) (q_vbn hN rfl) (q_vbn hN rfl) (s_X4_init_at1 hN hc hK1 h) (fun S4 I5 J6 hE8 hc8 hN8 hR8 h => ?_)
  have hN9 : S4.2.1 = 15 := by rw [hN8, hN]
  have hE9 := hE.tr hE8
  have hR9 := hR.call hE hR8 (by rw [hN0]; decide)
  have hK09 : S4.2.2.1 0 = 7 := (hE8.2.1 0 (by rw [hN]; decide)).2.1.trans hK0
  have hK19 : S4.2.2.1 1 = 4 := (hE8.2.1 1 (by rw [hN]; decide)).2.1.trans hK1
  clear hc hE hR hK0 hK1  
  have hN := hN9
  have hc := hc8
  have hE := hE9
  have hR := hR9
  have hK0 := hK09
  have hK1 := hK19
  refine V_putF dX7_init_12 fl_RX7_10 rfl rfl rfl (by rw [hN]; decide) hK0 rfl (fun _ => rfl) (fun _ => rfl) ?_
  refine V_memS (fun S7 e_S7 => ?_)
  replace h := h S7 e_S7
  have hN9 : S7.2.1 = 15 := by rw [e_S7]; exact hN
  have hc9 : q_cl S7 := by rw [e_S7]; exact q_cl_put hc (by rw [hN]; decide)
  have hE9 : Ex S S7 := by rw [e_S7]; exact hE.tr (Ex.put _ _)
  have hR9 : q_Rk 0 S S7 := by rw [e_S7]; exact hR.put (Or.inl rfl)
  have hK09 : S7.2.2.1 0 = 7 := by rw [e_S7]; exact hK0
  have hK19 : S7.2.2.1 1 = 4 := by rw [e_S7]; exact hK1
  clear hc hE hR hK0 hK1  
  have hN := hN9
  have hc := hc9
  have hE := hE9
  have hR := hR9
  have hK0 := hK09
  have hK1 := hK19
  have hR0_0 : S7.2.2.2.2 0 0 = some 1 := by rw [e_S7]; exact q_u2_s S4.2.2.2.2 0 0 (some 1)
  refine V_aload_n dX7_init_15 rfl rfl ?_
  refine V_new (ci := 2) dX7_init_16 (by decide) cl_RX7_16 is_RX2 ii_RX2 (by rw [hN]; decide) hc (q_vbn hN rfl) (q_vbn hN rfl) (by decide) (by decide) (fun a9 => ?_)
  rw [hN]
  refine V_memS (fun S8 e_S8 => ?_)
  refine V_memI (fun I10 e_I10 => ?_)
  replace h := h a9 S8 e_S8 I10 e_I10
  have hM9 := hN
  have hN9 : S8.2.1 = 16 := by rw [e_S8]; show _ + 1 = 16; rw [hN]
  have hc9 : q_cl S8 := by rw [e_S8]; exact q_cl_new hc _ _ _
  have hE9 : Ex S S8 := by rw [e_S8]; exact hE.tr (Ex.new _ (by rw [hN]; decide) _ _ _)
  have hR9 : q_Rk 0 S S8 := by rw [e_S8]; exact hR.new hE.1 _ _ _
  have hK09 : S8.2.2.1 0 = 7 := by rw [e_S8]; exact (if_neg (by rw [hN]; decide)).trans hK0
  have hK19 : S8.2.2.1 1 = 4 := by rw [e_S8]; exact (if_neg (by rw [hN]; decide)).trans hK1
  have hR0_09 : S8.2.2.2.2 0 0 = some 1 := by rw [e_S8]; exact (congrFun (if_neg (by rw [hN]; decide)) _).trans hR0_0
  clear hc hE hR hK0 hK1  hR0_0
  have hN := hN9
  have hc := hc9
  have hE := hE9
  have hR := hR9
  have hK0 := hK09
  have hK1 := hK19
  have hR0_0 := hR0_09
  have hK15 : S8.2.2.1 15 = 2 := by rw [e_S8]; exact if_pos hM9.symm
  clear hM9
  refine V_dup dX7_init_19 rfl ?_
  refine V_aload_n dX7_init_20 rfl rfl ?_
  refine V_getr dX7_init_21 fl_RX7_10 (by rw [hN]; decide) hK0 rfl hR0_0 ?_
  refine V_callIk (st := [.ref 15, .ref 0]) [.ref 1] dX7_init_24 ok_mX2_init rfl ml_RX7_18 in_mX2_init rfl rfl (Nat.le_of_ble_eq_true rfl) (by decide) (by decide) (by decide) (q_vbn hN rfl) (q_vbn hN rfl) (s_X2_init_at15 hN hc hK15 h) (fun S11 I12 J13 hE8 hc8 hN8 hR8 h => ?_)
  have hN9 : S11.2.1 = 23 := by rw [hN8, hN]
  have hE9 := hE.tr hE8
  have hR9 := hR.call hE hR8 (by rw [hN0]; decide)
  have hK09 : S11.2.2.1 0 = 7 := (hE8.2.1 0 (by rw [hN]; decide)).2.1.trans hK0
  have hK19 : S11.2.2.1 1 = 4 := (hE8.2.1 1 (by rw [hN]; decide)).2.1.trans hK1
  have hR0_09 : S11.2.2.2.2 0 0 = some 1 := (congrFun (hR8 0 (by rw [hN]; decide) (by decide)) _).trans hR0_0
  have hK159 : S11.2.2.1 15 = 2 := (hE8.2.1 15 (by rw [hN]; decide)).2.1.trans hK15
  clear hc hE hR hK0 hK1 hK15  hR0_0
  have hN := hN9
  have hc := hc8
  have hE := hE9
  have hR := hR9
  have hK0 := hK09
  have hK1 := hK19
  have hR0_0 := hR0_09
  have hK15 := hK159
  refine V_putF dX7_init_27 fl_RX7_21 rfl rfl rfl (by rw [hN]; decide) hK0 rfl (fun _ => rfl) (fun _ => rfl) ?_
  refine V_memS (fun S14 e_S14 => ?_)
  replace h := h S14 e_S14
  have hN9 : S14.2.1 = 23 := by rw [e_S14]; exact hN
  have hc9 : q_cl S14 := by rw [e_S14]; exact q_cl_put hc (by rw [hN]; decide)
  have hE9 : Ex S S14 := by rw [e_S14]; exact hE.tr (Ex.put _ _)
  have hR9 : q_Rk 0 S S14 := by rw [e_S14]; exact hR.put (Or.inl rfl)
  have hK09 : S14.2.2.1 0 = 7 := by rw [e_S14]; exact hK0
  have hK19 : S14.2.2.1 1 = 4 := by rw [e_S14]; exact hK1
  have hR0_09 : S14.2.2.2.2 0 0 = some 1 := by rw [e_S14]; exact (if_neg (t := some 15) (show ¬ ((0 : Nat) = 0 ∧ (0 : Nat) = 1) by decide)).trans hR0_0
  have hK159 : S14.2.2.1 15 = 2 := by rw [e_S14]; exact hK15
  clear hc hE hR hK0 hK1 hK15  hR0_0
  have hN := hN9
  have hc := hc9
  have hE := hE9
  have hR := hR9
  have hK0 := hK09
  have hK1 := hK19
  have hR0_0 := hR0_09
  have hK15 := hK159
  have hR0_1 : S14.2.2.2.2 0 1 = some 15 := by rw [e_S14]; exact q_u2_s S11.2.2.2.2 0 1 (some 15)
  refine V_aload_n dX7_init_30 rfl rfl ?_
  refine V_new (ci := 0) dX7_init_31 (by decide) cl_RX7_25 is_RX0 ii_RX0 (by rw [hN]; decide) hc (q_vbn hN rfl) (q_vbn hN rfl) (by decide) (by decide) (fun a16 => ?_)
  rw [hN]
  refine V_memS (fun S15 e_S15 => ?_)
  refine V_memI (fun I17 e_I17 => ?_)
  replace h := h a16 S15 e_S15 I17 e_I17
  have hM9 := hN
  have hN9 : S15.2.1 = 24 := by rw [e_S15]; show _ + 1 = 24; rw [hN]
  have hc9 : q_cl S15 := by rw [e_S15]; exact q_cl_new hc _ _ _
  have hE9 : Ex S S15 := by rw [e_S15]; exact hE.tr (Ex.new _ (by rw [hN]; decide) _ _ _)
  have hR9 : q_Rk 0 S S15 := by rw [e_S15]; exact hR.new hE.1 _ _ _
  have hK09 : S15.2.2.1 0 = 7 := by rw [e_S15]; exact (if_neg (by rw [hN]; decide)).trans hK0
  have hK19 : S15.2.2.1 1 = 4 := by rw [e_S15]; exact (if_neg (by rw [hN]; decide)).trans hK1
  have hR0_09 : S15.2.2.2.2 0 0 = some 1 := by rw [e_S15]; exact (congrFun (if_neg (by rw [hN]; decide)) _).trans hR0_0
  have hK159 : S15.2.2.1 15 = 2 := by rw [e_S15]; exact (if_neg (by rw [hN]; decide)).trans hK15
  have hR0_19 : S15.2.2.2.2 0 1 = some 15 := by rw [e_S15]; exact (congrFun (if_neg (by rw [hN]; decide)) _).trans hR0_1
  clear hc hE hR hK0 hK1 hK15  hR0_0 hR0_1
  have hN := hN9
  have hc := hc9
  have hE := hE9
  have hR := hR9
  have hK0 := hK09
  have hK1 := hK19
  have hR0_0 := hR0_09
  have hK15 := hK159
  have hR0_1 := hR0_19
  have hK23 : S15.2.2.1 23 = 0 := by rw [e_S15]; exact if_pos hM9.symm
  clear hM9
  refine V_dup dX7_init_34 rfl ?_
  refine V_aload_n dX7_init_35 rfl rfl ?_
  refine V_getr dX7_init_36 fl_RX7_10 (by rw [hN]; decide) hK0 rfl hR0_0 ?_
  refine V_aload_n dX7_init_39 rfl rfl ?_
  refine V_getr dX7_init_40 fl_RX7_21 (by rw [hN]; decide) hK0 rfl hR0_1 ?_
  refine V_callIk (st := [.ref 23, .ref 0]) [.ref 1, .ref 15] dX7_init_43 ok_mX0_init rfl ml_RX7_27 in_mX0_init rfl rfl (Nat.le_of_ble_eq_true rfl) (by decide) (by decide) (by decide) (q_vbn hN rfl) (q_vbn hN rfl) (s_X0_init_at23 hN hc hK23 h) (fun S18 I19 J20 hE8 hc8 hN8 hR8 h => ?_)
  have hN9 : S18.2.1 = 30 := by rw [hN8, hN]
  have hE9 := hE.tr hE8
  have hR9 := hR.call hE hR8 (by rw [hN0]; decide)
  have hK09 : S18.2.2.1 0 = 7 := (hE8.2.1 0 (by rw [hN]; decide)).2.1.trans hK0
  have hK19 : S18.2.2.1 1 = 4 := (hE8.2.1 1 (by rw [hN]; decide)).2.1.trans hK1
  have hR0_09 : S18.2.2.2.2 0 0 = some 1 := (congrFun (hR8 0 (by rw [hN]; decide) (by decide)) _).trans hR0_0
  have hK159 : S18.2.2.1 15 = 2 := (hE8.2.1 15 (by rw [hN]; decide)).2.1.trans hK15
  have hR0_19 : S18.2.2.2.2 0 1 = some 15 := (congrFun (hR8 0 (by rw [hN]; decide) (by decide)) _).trans hR0_1
  have hK239 : S18.2.2.1 23 = 0 := (hE8.2.1 23 (by rw [hN]; decide)).2.1.trans hK23
  clear hc hE hR hK0 hK1 hK15 hK23  hR0_0 hR0_1
  have hN := hN9
  have hc := hc8
  have hE := hE9
  have hR := hR9
  have hK0 := hK09
  have hK1 := hK19
  have hR0_0 := hR0_09
  have hK15 := hK159
  have hR0_1 := hR0_19
  have hK23 := hK239
  refine V_putF dX7_init_46 fl_RX7_30 rfl rfl rfl (by rw [hN]; decide) hK0 rfl (fun _ => rfl) (fun _ => rfl) ?_
  refine V_memS (fun S21 e_S21 => ?_)
  replace h := h S21 e_S21
  have hN9 : S21.2.1 = 30 := by rw [e_S21]; exact hN
  have hc9 : q_cl S21 := by rw [e_S21]; exact q_cl_put hc (by rw [hN]; decide)
  have hE9 : Ex S S21 := by rw [e_S21]; exact hE.tr (Ex.put _ _)
  have hR9 : q_Rk 0 S S21 := by rw [e_S21]; exact hR.put (Or.inl rfl)
  have hK09 : S21.2.2.1 0 = 7 := by rw [e_S21]; exact hK0
  have hK19 : S21.2.2.1 1 = 4 := by rw [e_S21]; exact hK1
  have hR0_09 : S21.2.2.2.2 0 0 = some 1 := by rw [e_S21]; exact (if_neg (t := some 23) (show ¬ ((0 : Nat) = 0 ∧ (0 : Nat) = 2) by decide)).trans hR0_0
  have hK159 : S21.2.2.1 15 = 2 := by rw [e_S21]; exact hK15
  have hR0_19 : S21.2.2.2.2 0 1 = some 15 := by rw [e_S21]; exact (if_neg (t := some 23) (show ¬ ((0 : Nat) = 0 ∧ (1 : Nat) = 2) by decide)).trans hR0_1
  have hK239 : S21.2.2.1 23 = 0 := by rw [e_S21]; exact hK23
  clear hc hE hR hK0 hK1 hK15 hK23  hR0_0 hR0_1
  have hN := hN9
  have hc := hc9
  have hE := hE9
  have hR := hR9
  have hK0 := hK09
  have hK1 := hK19
  have hR0_0 := hR0_09
  have hK15 := hK159
  have hR0_1 := hR0_19
  have hK23 := hK239
  have hR0_2 : S21.2.2.2.2 0 2 = some 23 := by rw [e_S21]; exact q_u2_s S18.2.2.2.2 0 2 (some 23)
  refine V_aload_n dX7_init_49 rfl rfl ?_
  refine V_new (ci := 3) dX7_init_50 (by decide) cl_RX7_34 is_RX3 ii_RX3 (by rw [hN]; decide) hc (q_vbn hN rfl) (q_vbn hN rfl) (by decide) (by decide) (fun a23 => ?_)
  rw [hN]
  refine V_memS (fun S22 e_S22 => ?_)
  refine V_memI (fun I24 e_I24 => ?_)
  replace h := h a23 S22 e_S22 I24 e_I24
  have hM9 := hN
  have hN9 : S22.2.1 = 31 := by rw [e_S22]; show _ + 1 = 31; rw [hN]
  have hc9 : q_cl S22 := by rw [e_S22]; exact q_cl_new hc _ _ _
  have hE9 : Ex S S22 := by rw [e_S22]; exact hE.tr (Ex.new _ (by rw [hN]; decide) _ _ _)
  have hR9 : q_Rk 0 S S22 := by rw [e_S22]; exact hR.new hE.1 _ _ _
  have hK09 : S22.2.2.1 0 = 7 := by rw [e_S22]; exact (if_neg (by rw [hN]; decide)).trans hK0
  have hK19 : S22.2.2.1 1 = 4 := by rw [e_S22]; exact (if_neg (by rw [hN]; decide)).trans hK1
  have hR0_09 : S22.2.2.2.2 0 0 = some 1 := by rw [e_S22]; exact (congrFun (if_neg (by rw [hN]; decide)) _).trans hR0_0
  have hK159 : S22.2.2.1 15 = 2 := by rw [e_S22]; exact (if_neg (by rw [hN]; decide)).trans hK15
  have hR0_19 : S22.2.2.2.2 0 1 = some 15 := by rw [e_S22]; exact (congrFun (if_neg (by rw [hN]; decide)) _).trans hR0_1
  have hK239 : S22.2.2.1 23 = 0 := by rw [e_S22]; exact (if_neg (by rw [hN]; decide)).trans hK23
  have hR0_29 : S22.2.2.2.2 0 2 = some 23 := by rw [e_S22]; exact (congrFun (if_neg (by rw [hN]; decide)) _).trans hR0_2
  clear hc hE hR hK0 hK1 hK15 hK23  hR0_0 hR0_1 hR0_2
  have hN := hN9
  have hc := hc9
  have hE := hE9
  have hR := hR9
  have hK0 := hK09
  have hK1 := hK19
  have hR0_0 := hR0_09
  have hK15 := hK159
  have hR0_1 := hR0_19
  have hK23 := hK239
  have hR0_2 := hR0_29
  have hK30 : S22.2.2.1 30 = 3 := by rw [e_S22]; exact if_pos hM9.symm
  clear hM9
  refine V_dup dX7_init_53 rfl ?_
  refine V_aload_n dX7_init_54 rfl rfl ?_
  refine V_getr dX7_init_55 fl_RX7_21 (by rw [hN]; decide) hK0 rfl hR0_1 ?_
  refine V_callIk (st := [.ref 30, .ref 0]) [.ref 15] dX7_init_58 ok_mX3_init rfl ml_RX7_36 in_mX3_init rfl rfl (Nat.le_of_ble_eq_true rfl) (by decide) (by decide) (by decide) (q_vbn hN rfl) (q_vbn hN rfl) (s_X3_init_at30 hN hc hK30 h) (fun S25 I26 J27 hE8 hc8 hN8 hR8 h => ?_)
  have hN9 : S25.2.1 = 37 := by rw [hN8, hN]
  have hE9 := hE.tr hE8
  have hR9 := hR.call hE hR8 (by rw [hN0]; decide)
  have hK09 : S25.2.2.1 0 = 7 := (hE8.2.1 0 (by rw [hN]; decide)).2.1.trans hK0
  have hK19 : S25.2.2.1 1 = 4 := (hE8.2.1 1 (by rw [hN]; decide)).2.1.trans hK1
  have hR0_09 : S25.2.2.2.2 0 0 = some 1 := (congrFun (hR8 0 (by rw [hN]; decide) (by decide)) _).trans hR0_0
  have hK159 : S25.2.2.1 15 = 2 := (hE8.2.1 15 (by rw [hN]; decide)).2.1.trans hK15
  have hR0_19 : S25.2.2.2.2 0 1 = some 15 := (congrFun (hR8 0 (by rw [hN]; decide) (by decide)) _).trans hR0_1
  have hK239 : S25.2.2.1 23 = 0 := (hE8.2.1 23 (by rw [hN]; decide)).2.1.trans hK23
  have hR0_29 : S25.2.2.2.2 0 2 = some 23 := (congrFun (hR8 0 (by rw [hN]; decide) (by decide)) _).trans hR0_2
  have hK309 : S25.2.2.1 30 = 3 := (hE8.2.1 30 (by rw [hN]; decide)).2.1.trans hK30
  clear hc hE hR hK0 hK1 hK15 hK23 hK30  hR0_0 hR0_1 hR0_2
  have hN := hN9
  have hc := hc8
  have hE := hE9
  have hR := hR9
  have hK0 := hK09
  have hK1 := hK19
  have hR0_0 := hR0_09
  have hK15 := hK159
  have hR0_1 := hR0_19
  have hK23 := hK239
  have hR0_2 := hR0_29
  have hK30 := hK309
  refine V_putF dX7_init_61 fl_RX7_39 rfl rfl rfl (by rw [hN]; decide) hK0 rfl (fun _ => rfl) (fun _ => rfl) ?_
  refine V_memS (fun S28 e_S28 => ?_)
  replace h := h S28 e_S28
  have hN9 : S28.2.1 = 37 := by rw [e_S28]; exact hN
  have hc9 : q_cl S28 := by rw [e_S28]; exact q_cl_put hc (by rw [hN]; decide)
  have hE9 : Ex S S28 := by rw [e_S28]; exact hE.tr (Ex.put _ _)
  have hR9 : q_Rk 0 S S28 := by rw [e_S28]; exact hR.put (Or.inl rfl)
  have hK09 : S28.2.2.1 0 = 7 := by rw [e_S28]; exact hK0
  have hK19 : S28.2.2.1 1 = 4 := by rw [e_S28]; exact hK1
  have hR0_09 : S28.2.2.2.2 0 0 = some 1 := by rw [e_S28]; exact (if_neg (t := some 30) (show ¬ ((0 : Nat) = 0 ∧ (0 : Nat) = 3) by decide)).trans hR0_0
  have hK159 : S28.2.2.1 15 = 2 := by rw [e_S28]; exact hK15
  have hR0_19 : S28.2.2.2.2 0 1 = some 15 := by rw [e_S28]; exact (if_neg (t := some 30) (show ¬ ((0 : Nat) = 0 ∧ (1 : Nat) = 3) by decide)).trans hR0_1
  have hK239 : S28.2.2.1 23 = 0 := by rw [e_S28]; exact hK23
  have hR0_29 : S28.2.2.2.2 0 2 = some 23 := by rw [e_S28]; exact (if_neg (t := some 30) (show ¬ ((0 : Nat) = 0 ∧ (2 : Nat) = 3) by decide)).trans hR0_2
  have hK309 : S28.2.2.1 30 = 3 := by rw [e_S28]; exact hK30
  clear hc hE hR hK0 hK1 hK15 hK23 hK30  hR0_0 hR0_1 hR0_2
  have hN := hN9
  have hc := hc9
  have hE := hE9
  have hR := hR9
  have hK0 := hK09
  have hK1 := hK19
  have hR0_0 := hR0_09
  have hK15 := hK159
  have hR0_1 := hR0_19
  have hK23 := hK239
  have hR0_2 := hR0_29
  have hK30 := hK309
  have hR0_3 : S28.2.2.2.2 0 3 = some 30 := by rw [e_S28]; exact q_u2_s S25.2.2.2.2 0 3 (some 30)
  refine V_aload_n dX7_init_64 rfl rfl ?_
  refine V_new (ci := 1) dX7_init_65 (by decide) cl_RX7_43 is_RX1 ii_RX1 (by rw [hN]; decide) hc (q_vbn hN rfl) (q_vbn hN rfl) (by decide) (by decide) (fun a30 => ?_)
  rw [hN]
  refine V_memS (fun S29 e_S29 => ?_)
  refine V_memI (fun I31 e_I31 => ?_)
  replace h := h a30 S29 e_S29 I31 e_I31
  have hM9 := hN
  have hN9 : S29.2.1 = 38 := by rw [e_S29]; show _ + 1 = 38; rw [hN]
  have hc9 : q_cl S29 := by rw [e_S29]; exact q_cl_new hc _ _ _
  have hE9 : Ex S S29 := by rw [e_S29]; exact hE.tr (Ex.new _ (by rw [hN]; decide) _ _ _)
  have hR9 : q_Rk 0 S S29 := by rw [e_S29]; exact hR.new hE.1 _ _ _
  have hK09 : S29.2.2.1 0 = 7 := by rw [e_S29]; exact (if_neg (by rw [hN]; decide)).trans hK0
  have hK19 : S29.2.2.1 1 = 4 := by rw [e_S29]; exact (if_neg (by rw [hN]; decide)).trans hK1
  have hR0_09 : S29.2.2.2.2 0 0 = some 1 := by rw [e_S29]; exact (congrFun (if_neg (by rw [hN]; decide)) _).trans hR0_0
  have hK159 : S29.2.2.1 15 = 2 := by rw [e_S29]; exact (if_neg (by rw [hN]; decide)).trans hK15
  have hR0_19 : S29.2.2.2.2 0 1 = some 15 := by rw [e_S29]; exact (congrFun (if_neg (by rw [hN]; decide)) _).trans hR0_1
  have hK239 : S29.2.2.1 23 = 0 := by rw [e_S29]; exact (if_neg (by rw [hN]; decide)).trans hK23
  have hR0_29 : S29.2.2.2.2 0 2 = some 23 := by rw [e_S29]; exact (congrFun (if_neg (by rw [hN]; decide)) _).trans hR0_2
  have hK309 : S29.2.2.1 30 = 3 := by rw [e_S29]; exact (if_neg (by rw [hN]; decide)).trans hK30
  have hR0_39 : S29.2.2.2.2 0 3 = some 30 := by rw [e_S29]; exact (congrFun (if_neg (by rw [hN]; decide)) _).trans hR0_3
  clear hc hE hR hK0 hK1 hK15 hK23 hK30  hR0_0 hR0_1 hR0_2 hR0_3
  have hN := hN9
  have hc := hc9
  have hE := hE9
  have hR := hR9
  have hK0 := hK09
  have hK1 := hK19
  have hR0_0 := hR0_09
  have hK15 := hK159
  have hR0_1 := hR0_19
  have hK23 := hK239
  have hR0_2 := hR0_29
  have hK30 := hK309
  have hR0_3 := hR0_39
  have hK37 : S29.2.2.1 37 = 1 := by rw [e_S29]; exact if_pos hM9.symm
  clear hM9
  refine V_dup dX7_init_68 rfl ?_
  refine V_aload_n dX7_init_69 rfl rfl ?_
  refine V_getr dX7_init_70 fl_RX7_10 (by rw [hN]; decide) hK0 rfl hR0_0 ?_
  refine V_callIk (st := [.ref 37, .ref 0]) [.ref 1] dX7_init_73 ok_mX1_init rfl ml_RX7_45 in_mX1_init rfl rfl (Nat.le_of_ble_eq_true rfl) (by decide) (by decide) (by decide) (q_vbn hN rfl) (q_vbn hN rfl) (s_X1_init_at37 hN hc hK37 h) (fun S32 I33 J34 hE8 hc8 hN8 hR8 h => ?_)
  have hN9 : S32.2.1 = 46 := by rw [hN8, hN]
  have hE9 := hE.tr hE8
  have hR9 := hR.call hE hR8 (by rw [hN0]; decide)
  have hK09 : S32.2.2.1 0 = 7 := (hE8.2.1 0 (by rw [hN]; decide)).2.1.trans hK0
  have hK19 : S32.2.2.1 1 = 4 := (hE8.2.1 1 (by rw [hN]; decide)).2.1.trans hK1
  have hR0_09 : S32.2.2.2.2 0 0 = some 1 := (congrFun (hR8 0 (by rw [hN]; decide) (by decide)) _).trans hR0_0
  have hK159 : S32.2.2.1 15 = 2 := (hE8.2.1 15 (by rw [hN]; decide)).2.1.trans hK15
  have hR0_19 : S32.2.2.2.2 0 1 = some 15 := (congrFun (hR8 0 (by rw [hN]; decide) (by decide)) _).trans hR0_1
  have hK239 : S32.2.2.1 23 = 0 := (hE8.2.1 23 (by rw [hN]; decide)).2.1.trans hK23
  have hR0_29 : S32.2.2.2.2 0 2 = some 23 := (congrFun (hR8 0 (by rw [hN]; decide) (by decide)) _).trans hR0_2
  have hK309 : S32.2.2.1 30 = 3 := (hE8.2.1 30 (by rw [hN]; decide)).2.1.trans hK30
  have hR0_39 : S32.2.2.2.2 0 3 = some 30 := (congrFun (hR8 0 (by rw [hN]; decide) (by decide)) _).trans hR0_3
  have hK379 : S32.2.2.1 37 = 1 := (hE8.2.1 37 (by rw [hN]; decide)).2.1.trans hK37
  clear hc hE hR hK0 hK1 hK15 hK23 hK30 hK37  hR0_0 hR0_1 hR0_2 hR0_3
  have hN := hN9
  have hc := hc8
  have hE := hE9
  have hR := hR9
  have hK0 := hK09
  have hK1 := hK19
  have hR0_0 := hR0_09
  have hK15 := hK159
  have hR0_1 := hR0_19
  have hK23 := hK239
  have hR0_2 := hR0_29
  have hK30 := hK309
  have hR0_3 := hR0_39
  have hK37 := hK379
  refine V_putF dX7_init_76 fl_RX7_46 rfl rfl rfl (by rw [hN]; decide) hK0 rfl (fun _ => rfl) (fun _ => rfl) ?_
  refine V_memS (fun S35 e_S35 => ?_)
  replace h := h S35 e_S35
  have hN9 : S35.2.1 = 46 := by rw [e_S35]; exact hN
  have hc9 : q_cl S35 := by rw [e_S35]; exact q_cl_put hc (by rw [hN]; decide)
  have hE9 : Ex S S35 := by rw [e_S35]; exact hE.tr (Ex.put _ _)
  have hR9 : q_Rk 0 S S35 := by rw [e_S35]; exact hR.put (Or.inl rfl)
  have hK09 : S35.2.2.1 0 = 7 := by rw [e_S35]; exact hK0
  have hK19 : S35.2.2.1 1 = 4 := by rw [e_S35]; exact hK1
  have hR0_09 : S35.2.2.2.2 0 0 = some 1 := by rw [e_S35]; exact (if_neg (t := some 37) (show ¬ ((0 : Nat) = 0 ∧ (0 : Nat) = 4) by decide)).trans hR0_0
  have hK159 : S35.2.2.1 15 = 2 := by rw [e_S35]; exact hK15
  have hR0_19 : S35.2.2.2.2 0 1 = some 15 := by rw [e_S35]; exact (if_neg (t := some 37) (show ¬ ((0 : Nat) = 0 ∧ (1 : Nat) = 4) by decide)).trans hR0_1
  have hK239 : S35.2.2.1 23 = 0 := by rw [e_S35]; exact hK23
  have hR0_29 : S35.2.2.2.2 0 2 = some 23 := by rw [e_S35]; exact (if_neg (t := some 37) (show ¬ ((0 : Nat) = 0 ∧ (2 : Nat) = 4) by decide)).trans hR0_2
  have hK309 : S35.2.2.1 30 = 3 := by rw [e_S35]; exact hK30
  have hR0_39 : S35.2.2.2.2 0 3 = some 30 := by rw [e_S35]; exact (if_neg (t := some 37) (show ¬ ((0 : Nat) = 0 ∧ (3 : Nat) = 4) by decide)).trans hR0_3
  have hK379 : S35.2.2.1 37 = 1 := by rw [e_S35]; exact hK37
  clear hc hE hR hK0 hK1 hK15 hK23 hK30 hK37  hR0_0 hR0_1 hR0_2 hR0_3
  have hN := hN9
  have hc := hc9
  have hE := hE9
  have hR := hR9
  have hK0 := hK09
  have hK1 := hK19
  have hR0_0 := hR0_09
  have hK15 := hK159
  have hR0_1 := hR0_19
  have hK23 := hK239
  have hR0_2 := hR0_29
  have hK30 := hK309
  have hR0_3 := hR0_39
  have hK37 := hK379
  have hR0_4 : S35.2.2.2.2 0 4 = some 37 := by rw [e_S35]; exact q_u2_s S32.2.2.2.2 0 4 (some 37)
  refine V_aload_n dX7_init_79 rfl rfl ?_
  refine V_new (ci := 6) dX7_init_80 (by decide) cl_RX7_50 is_RX6 ii_RX6 (by rw [hN]; decide) hc (q_vbn hN rfl) (q_vbn hN rfl) (by decide) (by decide) (fun a37 => ?_)
  rw [hN]
  refine V_memS (fun S36 e_S36 => ?_)
  refine V_memI (fun I38 e_I38 => ?_)
  replace h := h a37 S36 e_S36 I38 e_I38
  have hM9 := hN
  have hN9 : S36.2.1 = 47 := by rw [e_S36]; show _ + 1 = 47; rw [hN]
  have hc9 : q_cl S36 := by rw [e_S36]; exact q_cl_new hc _ _ _
  have hE9 : Ex S S36 := by rw [e_S36]; exact hE.tr (Ex.new _ (by rw [hN]; decide) _ _ _)
  have hR9 : q_Rk 0 S S36 := by rw [e_S36]; exact hR.new hE.1 _ _ _
  have hK09 : S36.2.2.1 0 = 7 := by rw [e_S36]; exact (if_neg (by rw [hN]; decide)).trans hK0
  have hK19 : S36.2.2.1 1 = 4 := by rw [e_S36]; exact (if_neg (by rw [hN]; decide)).trans hK1
  have hR0_09 : S36.2.2.2.2 0 0 = some 1 := by rw [e_S36]; exact (congrFun (if_neg (by rw [hN]; decide)) _).trans hR0_0
  have hK159 : S36.2.2.1 15 = 2 := by rw [e_S36]; exact (if_neg (by rw [hN]; decide)).trans hK15
  have hR0_19 : S36.2.2.2.2 0 1 = some 15 := by rw [e_S36]; exact (congrFun (if_neg (by rw [hN]; decide)) _).trans hR0_1
  have hK239 : S36.2.2.1 23 = 0 := by rw [e_S36]; exact (if_neg (by rw [hN]; decide)).trans hK23
  have hR0_29 : S36.2.2.2.2 0 2 = some 23 := by rw [e_S36]; exact (congrFun (if_neg (by rw [hN]; decide)) _).trans hR0_2
  have hK309 : S36.2.2.1 30 = 3 := by rw [e_S36]; exact (if_neg (by rw [hN]; decide)).trans hK30
  have hR0_39 : S36.2.2.2.2 0 3 = some 30 := by rw [e_S36]; exact (congrFun (if_neg (by rw [hN]; decide)) _).trans hR0_3
  have hK379 : S36.2.2.1 37 = 1 := by rw [e_S36]; exact (if_neg (by rw [hN]; decide)).trans hK37
  have hR0_49 : S36.2.2.2.2 0 4 = some 37 := by rw [e_S36]; exact (congrFun (if_neg (by rw [hN]; decide)) _).trans hR0_4
  clear hc hE hR hK0 hK1 hK15 hK23 hK30 hK37  hR0_0 hR0_1 hR0_2 hR0_3 hR0_4
  have hN := hN9
  have hc := hc9
  have hE := hE9
  have hR := hR9
  have hK0 := hK09
  have hK1 := hK19
  have hR0_0 := hR0_09
  have hK15 := hK159
  have hR0_1 := hR0_19
  have hK23 := hK239
  have hR0_2 := hR0_29
  have hK30 := hK309
  have hR0_3 := hR0_39
  have hK37 := hK379
  have hR0_4 := hR0_49
  have hK46 : S36.2.2.1 46 = 6 := by rw [e_S36]; exact if_pos hM9.symm
  clear hM9
  refine V_dup dX7_init_83 rfl ?_
  refine V_aload_n dX7_init_84 rfl rfl ?_
  refine V_getr dX7_init_85 fl_RX7_10 (by rw [hN]; decide) hK0 rfl hR0_0 ?_
  refine V_callIk (st := [.ref 46, .ref 0]) [.ref 1] dX7_init_88 ok_mX6_init rfl ml_RX7_52 in_mX6_init rfl rfl (Nat.le_of_ble_eq_true rfl) (by decide) (by decide) (by decide) (q_vbn hN rfl) (q_vbn hN rfl) (s_X6_init_at46 hN hc hK46 h) (fun S39 I40 J41 hE8 hc8 hN8 hR8 h => ?_)
  have hN9 : S39.2.1 = 51 := by rw [hN8, hN]
  have hE9 := hE.tr hE8
  have hR9 := hR.call hE hR8 (by rw [hN0]; decide)
  have hK09 : S39.2.2.1 0 = 7 := (hE8.2.1 0 (by rw [hN]; decide)).2.1.trans hK0
  have hK19 : S39.2.2.1 1 = 4 := (hE8.2.1 1 (by rw [hN]; decide)).2.1.trans hK1
  have hR0_09 : S39.2.2.2.2 0 0 = some 1 := (congrFun (hR8 0 (by rw [hN]; decide) (by decide)) _).trans hR0_0
  have hK159 : S39.2.2.1 15 = 2 := (hE8.2.1 15 (by rw [hN]; decide)).2.1.trans hK15
  have hR0_19 : S39.2.2.2.2 0 1 = some 15 := (congrFun (hR8 0 (by rw [hN]; decide) (by decide)) _).trans hR0_1
  have hK239 : S39.2.2.1 23 = 0 := (hE8.2.1 23 (by rw [hN]; decide)).2.1.trans hK23
  have hR0_29 : S39.2.2.2.2 0 2 = some 23 := (congrFun (hR8 0 (by rw [hN]; decide) (by decide)) _).trans hR0_2
  have hK309 : S39.2.2.1 30 = 3 := (hE8.2.1 30 (by rw [hN]; decide)).2.1.trans hK30
  have hR0_39 : S39.2.2.2.2 0 3 = some 30 := (congrFun (hR8 0 (by rw [hN]; decide) (by decide)) _).trans hR0_3
  have hK379 : S39.2.2.1 37 = 1 := (hE8.2.1 37 (by rw [hN]; decide)).2.1.trans hK37
  have hR0_49 : S39.2.2.2.2 0 4 = some 37 := (congrFun (hR8 0 (by rw [hN]; decide) (by decide)) _).trans hR0_4
  have hK469 : S39.2.2.1 46 = 6 := (hE8.2.1 46 (by rw [hN]; decide)).2.1.trans hK46
  clear hc hE hR hK0 hK1 hK15 hK23 hK30 hK37 hK46  hR0_0 hR0_1 hR0_2 hR0_3 hR0_4
  have hN := hN9
  have hc := hc8
  have hE := hE9
  have hR := hR9
  have hK0 := hK09
  have hK1 := hK19
  have hR0_0 := hR0_09
  have hK15 := hK159
  have hR0_1 := hR0_19
  have hK23 := hK239
  have hR0_2 := hR0_29
  have hK30 := hK309
  have hR0_3 := hR0_39
  have hK37 := hK379
  have hR0_4 := hR0_49
  have hK46 := hK469
  refine V_putF dX7_init_91 fl_RX7_53 rfl rfl rfl (by rw [hN]; decide) hK0 rfl (fun _ => rfl) (fun _ => rfl) ?_
  refine V_memS (fun S42 e_S42 => ?_)
  replace h := h S42 e_S42
  have hN9 : S42.2.1 = 51 := by rw [e_S42]; exact hN
  have hc9 : q_cl S42 := by rw [e_S42]; exact q_cl_put hc (by rw [hN]; decide)
  have hE9 : Ex S S42 := by rw [e_S42]; exact hE.tr (Ex.put _ _)
  have hR9 : q_Rk 0 S S42 := by rw [e_S42]; exact hR.put (Or.inl rfl)
  have hK09 : S42.2.2.1 0 = 7 := by rw [e_S42]; exact hK0
  have hK19 : S42.2.2.1 1 = 4 := by rw [e_S42]; exact hK1
  have hR0_09 : S42.2.2.2.2 0 0 = some 1 := by rw [e_S42]; exact (if_neg (t := some 46) (show ¬ ((0 : Nat) = 0 ∧ (0 : Nat) = 5) by decide)).trans hR0_0
  have hK159 : S42.2.2.1 15 = 2 := by rw [e_S42]; exact hK15
  have hR0_19 : S42.2.2.2.2 0 1 = some 15 := by rw [e_S42]; exact (if_neg (t := some 46) (show ¬ ((0 : Nat) = 0 ∧ (1 : Nat) = 5) by decide)).trans hR0_1
  have hK239 : S42.2.2.1 23 = 0 := by rw [e_S42]; exact hK23
  have hR0_29 : S42.2.2.2.2 0 2 = some 23 := by rw [e_S42]; exact (if_neg (t := some 46) (show ¬ ((0 : Nat) = 0 ∧ (2 : Nat) = 5) by decide)).trans hR0_2
  have hK309 : S42.2.2.1 30 = 3 := by rw [e_S42]; exact hK30
  have hR0_39 : S42.2.2.2.2 0 3 = some 30 := by rw [e_S42]; exact (if_neg (t := some 46) (show ¬ ((0 : Nat) = 0 ∧ (3 : Nat) = 5) by decide)).trans hR0_3
  have hK379 : S42.2.2.1 37 = 1 := by rw [e_S42]; exact hK37
  have hR0_49 : S42.2.2.2.2 0 4 = some 37 := by rw [e_S42]; exact (if_neg (t := some 46) (show ¬ ((0 : Nat) = 0 ∧ (4 : Nat) = 5) by decide)).trans hR0_4
  have hK469 : S42.2.2.1 46 = 6 := by rw [e_S42]; exact hK46
  clear hc hE hR hK0 hK1 hK15 hK23 hK30 hK37 hK46  hR0_0 hR0_1 hR0_2 hR0_3 hR0_4
  have hN := hN9
  have hc := hc9
  have hE := hE9
  have hR := hR9
  have hK0 := hK09
  have hK1 := hK19
  have hR0_0 := hR0_09
  have hK15 := hK159
  have hR0_1 := hR0_19
  have hK23 := hK239
  have hR0_2 := hR0_29
  have hK30 := hK309
  have hR0_3 := hR0_39
  have hK37 := hK379
  have hR0_4 := hR0_49
  have hK46 := hK469
  have hR0_5 : S42.2.2.2.2 0 5 = some 46 := by rw [e_S42]; exact q_u2_s S39.2.2.2.2 0 5 (some 46)
  refine V_aload_n dX7_init_94 rfl rfl ?_
  refine V_ldc dX7_init_95 co_RX7_57 ?_
  refine V_puti dX7_init_97 fl_RX7_58 rfl (by rw [hN]; decide) hK0 rfl rfl rfl ?_
  refine V_memI (fun I43 e_I43 => ?_)
  replace h := h I43 e_I43
  exact V_vret dX7_init_100 rfl (by decide) (by decide) ⟨rfl, hE, hc, by rw [hN, hN0], hR, h⟩
