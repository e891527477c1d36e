def w_X2_init_at66 (S : QS) (I : QI) (J : QJ) (post : QS → QI → QJ → Prop) : Prop := (∀ S1 : QS, S1 = q_sR S (q_u2 S.2.2.2.2 66 0 (some 52)) → (∀ a3 : Nat, ∀ S2 : QS, S2 = q_nS S1 a3 9 24 → (∀ I4 : QI, I4 = q_rw I 67 (fun _ => 0) → (∀ S5 : QS, S5 = q_sR S2 (q_u2 S2.2.2.2.2 66 1 (some 67)) → (∀ a7 : Nat, ∀ S6 : QS, S6 = q_nS S5 a7 9 24 → (∀ I8 : QI, I8 = q_rw I4 68 (fun _ => 0) → (∀ S9 : QS, S9 = q_sR S6 (q_u2 S6.2.2.2.2 66 2 (some 68)) → (∀ a11 : Nat, ∀ S10 : QS, S10 = q_nS S9 a11 9 24 → (∀ I12 : QI, I12 = q_rw I8 69 (fun _ => 0) → (∀ S13 : QS, S13 = q_sR S10 (q_u2 S10.2.2.2.2 66 3 (some 69)) → (∀ a15 : Nat, ∀ S14 : QS, S14 = q_nS S13 a15 9 24 → (∀ I16 : QI, I16 = q_rw I12 70 (fun _ => 0) → (∀ S17 : QS, S17 = q_sR S14 (q_u2 S14.2.2.2.2 66 4 (some 70)) → (∀ a19 : Nat, ∀ S18 : QS, S18 = q_nS S17 a19 9 24 → (∀ I20 : QI, I20 = q_rw I16 71 (fun _ => 0) → (∀ S21 : QS, S21 = q_sR S18 (q_u2 S18.2.2.2.2 66 5 (some 71)) → (∀ a23 : Nat, ∀ S22 : QS, S22 = q_nS S21 a23 9 24 → (∀ I24 : QI, I24 = q_rw I20 72 (fun _ => 0) → (∀ S25 : QS, S25 = q_sR S22 (q_u2 S22.2.2.2.2 66 6 (some 72)) → (∀ a27 : Nat, ∀ S26 : QS, S26 = q_nS S25 a27 9 24 → (∀ I28 : QI, I28 = q_rw I24 73 (fun _ => 0) → (∀ S29 : QS, S29 = q_sR S26 (q_u2 S26.2.2.2.2 66 7 (some 73)) → (post S29 I28 J)))))))))))))))))))))))
set_option maxRecDepth 100000 in
set_option maxHeartbeats 4000000 in
theorem s_X2_init_at66 {X : QX} {S : QS} {I : QI} {J : QJ} {post : QS → QI → QJ → Prop} (hN : S.2.1 = 67) (hc : q_cl S) (hK66 : S.2.2.1 66 = 2) (h : w_X2_init_at66 S I J post) : CX X mX2_init 1 7 168 [.ref 66, .ref 52] S I J (q_Pk 66 S 7 post) := by
  have hN0 := hN
  have hE : Ex S S := Ex.rf
  have hR : q_Rk 66 S S := q_Rk.rf
  refine CX.of (lo := [(0, .ref 66), (1, .ref 52)]) ok_mX2_init rfl (Nat.le_of_ble_eq_true rfl) rfl ?_
  replace h : (∀ S1 : QS, S1 = q_sR S (q_u2 S.2.2.2.2 66 0 (some 52)) → (∀ a3 : Nat, ∀ S2 : QS, S2 = q_nS S1 a3 9 24 → (∀ I4 : QI, I4 = q_rw I 67 (fun _ => 0) → (∀ S5 : QS, S5 = q_sR S2 (q_u2 S2.2.2.2.2 66 1 (some 67)) → (∀ a7 : Nat, ∀ S6 : QS, S6 = q_nS S5 a7 9 24 → (∀ I8 : QI, I8 = q_rw I4 68 (fun _ => 0) → (∀ S9 : QS, S9 = q_sR S6 (q_u2 S6.2.2.2.2 66 2 (some 68)) → (∀ a11 : Nat, ∀ S10 : QS, S10 = q_nS S9 a11 9 24 → (∀ I12 : QI, I12 = q_rw I8 69 (fun _ => 0) → (∀ S13 : QS, S13 = q_sR S10 (q_u2 S10.2.2.2.2 66 3 (some 69)) → (∀ a15 : Nat, ∀ S14 : QS, S14 = q_nS S13 a15 9 24 → (∀ I16 : QI, I16 = q_rw I12 70 (fun _ => 0) → (∀ S17 : QS, S17 = q_sR S14 (q_u2 S14.2.2.2.2 66 4 (some 70)) → (∀ a19 : Nat, ∀ S18 : QS, S18 = q_nS S17 a19 9 24 → (∀ I20 : QI, I20 = q_rw I16 71 (fun _ => 0) → (∀ S21 : QS, S21 = q_sR S18 (q_u2 S18.2.2.2.2 66 5 (some 71)) → (∀ a23 : Nat, ∀ S22 : QS, S22 = q_nS S21 a23 9 24 → (∀ I24 : QI, I24 = q_rw I20 72 (fun _ => 0) → (∀ S25 : QS, S25 = q_sR S22 (q_u2 S22.2.2.2.2 66 6 (some 72)) → (∀ a27 : Nat, ∀ S26 : QS, S26 = q_nS S25 a27 9 24 → (∀ I28 : QI, I28 = q_rw I24 73 (fun _ => 0) → (∀ S29 : QS, S29 = q_sR S26 (q_u2 S26.2.2.2.2 66 7 (some 73)) → (post S29 I28 J))))))))))))))))))))))) := h
  refine V_aload_n dX2_init_0 rfl rfl ?_
  refine V_objInit dX2_init_1 ml_RX2_3 ob_in ob_co (Nat.le_of_ble_eq_true rfl) ?_
  refine V_aload_n dX2_init_4 rfl rfl ?_
  refine V_aload_n dX2_init_5 rfl rfl ?_
  refine V_putF dX2_init_6 fl_RX2_9 rfl rfl rfl (by rw [hN]; decide) hK66 rfl (fun _ => rfl) (fun _ => rfl) ?_
  refine V_memS (fun S1 e_S1 => ?_)
  replace h := h S1 e_S1
  have hN9 : S1.2.1 = 67 := by rw [e_S1]; exact hN
  have hc9 : q_cl S1 := by rw [e_S1]; exact q_cl_put hc (by rw [hN]; decide)
  have hE9 : Ex S S1 := by rw [e_S1]; exact hE.tr (Ex.put _ _)
  have hR9 : q_Rk 66 S S1 := by rw [e_S1]; exact hR.put (Or.inl rfl)
  have hK669 : S1.2.2.1 66 = 2 := by rw [e_S1]; exact hK66
  clear hc hE hR hK66  
  have hN := hN9
  have hc := hc9
  have hE := hE9
  have hR := hR9
  have hK66 := hK669
  refine V_aload_n dX2_init_9 rfl rfl ?_
  refine V_bipush (v := 24) dX2_init_10 (by decide) ?_
  refine V_newI (z := 24) dX2_init_12 ac_int (by decide) (by decide) (by decide) (by rw [hN]; decide) hc (q_vbn hN rfl) (q_vbn hN rfl) (by decide) (by decide) (fun a3 => ?_)
  rw [hN]
  refine V_memS (fun S2 e_S2 => ?_)
  refine V_memI (fun I4 e_I4 => ?_)
  replace h := h a3 S2 e_S2 I4 e_I4
  have hM9 := hN
  have hN9 : S2.2.1 = 68 := by rw [e_S2]; show _ + 1 = 68; rw [hN]
  have hc9 : q_cl S2 := by rw [e_S2]; exact q_cl_new hc _ _ _
  have hE9 : Ex S S2 := by rw [e_S2]; exact hE.tr (Ex.new _ (by rw [hN]; decide) _ _ _)
  have hR9 : q_Rk 66 S S2 := by rw [e_S2]; exact hR.new hE.1 _ _ _
  have hK669 : S2.2.2.1 66 = 2 := by rw [e_S2]; exact (if_neg (by rw [hN]; decide)).trans hK66
  clear hc hE hR hK66  
  have hN := hN9
  have hc := hc9
  have hE := hE9
  have hR := hR9
  have hK66 := hK669
  clear hM9
  refine V_putF dX2_init_14 fl_RX2_15 rfl rfl rfl (by rw [hN]; decide) hK66 rfl (fun _ => rfl) (fun _ => rfl) ?_
  refine V_memS (fun S5 e_S5 => ?_)
  replace h := h S5 e_S5
  have hN9 : S5.2.1 = 68 := by rw [e_S5]; exact hN
  have hc9 : q_cl S5 := by rw [e_S5]; exact q_cl_put hc (by rw [hN]; decide)
  have hE9 : Ex S S5 := by rw [e_S5]; exact hE.tr (Ex.put _ _)
  have hR9 : q_Rk 66 S S5 := by rw [e_S5]; exact hR.put (Or.inl rfl)
  have hK669 : S5.2.2.1 66 = 2 := by rw [e_S5]; exact hK66
  clear hc hE hR hK66  
  have hN := hN9
  have hc := hc9
  have hE := hE9
  have hR := hR9
  have hK66 := hK669
  refine V_aload_n dX2_init_17 rfl rfl ?_
  refine V_bipush (v := 24) dX2_init_18 (by decide) ?_
  refine V_newI (z := 24) dX2_init_20 ac_int (by decide) (by decide) (by decide) (by rw [hN]; decide) hc (q_vbn hN rfl) (q_vbn hN rfl) (by decide) (by decide) (fun a7 => ?_)
  rw [hN]
  refine V_memS (fun S6 e_S6 => ?_)
  refine V_memI (fun I8 e_I8 => ?_)
  replace h := h a7 S6 e_S6 I8 e_I8
  have hM9 := hN
  have hN9 : S6.2.1 = 69 := by rw [e_S6]; show _ + 1 = 69; rw [hN]
  have hc9 : q_cl S6 := by rw [e_S6]; exact q_cl_new hc _ _ _
  have hE9 : Ex S S6 := by rw [e_S6]; exact hE.tr (Ex.new _ (by rw [hN]; decide) _ _ _)
  have hR9 : q_Rk 66 S S6 := by rw [e_S6]; exact hR.new hE.1 _ _ _
  have hK669 : S6.2.2.1 66 = 2 := by rw [e_S6]; exact (if_neg (by rw [hN]; decide)).trans hK66
  clear hc hE hR hK66  
  have hN := hN9
  have hc := hc9
  have hE := hE9
  have hR := hR9
  have hK66 := hK669
  clear hM9
  refine V_putF dX2_init_22 fl_RX2_19 rfl rfl rfl (by rw [hN]; decide) hK66 rfl (fun _ => rfl) (fun _ => rfl) ?_
  refine V_memS (fun S9 e_S9 => ?_)
  replace h := h S9 e_S9
  have hN9 : S9.2.1 = 69 := by rw [e_S9]; exact hN
  have hc9 : q_cl S9 := by rw [e_S9]; exact q_cl_put hc (by rw [hN]; decide)
  have hE9 : Ex S S9 := by rw [e_S9]; exact hE.tr (Ex.put _ _)
  have hR9 : q_Rk 66 S S9 := by rw [e_S9]; exact hR.put (Or.inl rfl)
  have hK669 : S9.2.2.1 66 = 2 := by rw [e_S9]; exact hK66
  clear hc hE hR hK66  
  have hN := hN9
  have hc := hc9
  have hE := hE9
  have hR := hR9
  have hK66 := hK669
  refine V_aload_n dX2_init_25 rfl rfl ?_
  refine V_bipush (v := 24) dX2_init_26 (by decide) ?_
  refine V_newI (z := 24) dX2_init_28 ac_int (by decide) (by decide) (by decide) (by rw [hN]; decide) hc (q_vbn hN rfl) (q_vbn hN rfl) (by decide) (by decide) (fun a11 => ?_)
  rw [hN]
  refine V_memS (fun S10 e_S10 => ?_)
  refine V_memI (fun I12 e_I12 => ?_)
  replace h := h a11 S10 e_S10 I12 e_I12
  have hM9 := hN
  have hN9 : S10.2.1 = 70 := by rw [e_S10]; show _ + 1 = 70; rw [hN]
  have hc9 : q_cl S10 := by rw [e_S10]; exact q_cl_new hc _ _ _
  have hE9 : Ex S S10 := by rw [e_S10]; exact hE.tr (Ex.new _ (by rw [hN]; decide) _ _ _)
  have hR9 : q_Rk 66 S S10 := by rw [e_S10]; exact hR.new hE.1 _ _ _
  have hK669 : S10.2.2.1 66 = 2 := by rw [e_S10]; exact (if_neg (by rw [hN]; decide)).trans hK66
  clear hc hE hR hK66  
  have hN := hN9
  have hc := hc9
  have hE := hE9
  have hR := hR9
  have hK66 := hK669
  clear hM9
  refine V_putF dX2_init_30 fl_RX2_22 rfl rfl rfl (by rw [hN]; decide) hK66 rfl (fun _ => rfl) (fun _ => rfl) ?_
  refine V_memS (fun S13 e_S13 => ?_)
  replace h := h S13 e_S13
  have hN9 : S13.2.1 = 70 := by rw [e_S13]; exact hN
  have hc9 : q_cl S13 := by rw [e_S13]; exact q_cl_put hc (by rw [hN]; decide)
  have hE9 : Ex S S13 := by rw [e_S13]; exact hE.tr (Ex.put _ _)
  have hR9 : q_Rk 66 S S13 := by rw [e_S13]; exact hR.put (Or.inl rfl)
  have hK669 : S13.2.2.1 66 = 2 := by rw [e_S13]; exact hK66
  clear hc hE hR hK66  
  have hN := hN9
  have hc := hc9
  have hE := hE9
  have hR := hR9
  have hK66 := hK669
  refine V_aload_n dX2_init_33 rfl rfl ?_
  refine V_bipush (v := 24) dX2_init_34 (by decide) ?_
  refine V_newI (z := 24) dX2_init_36 ac_int (by decide) (by decide) (by decide) (by rw [hN]; decide) hc (q_vbn hN rfl) (q_vbn hN rfl) (by decide) (by decide) (fun a15 => ?_)
  rw [hN]
  refine V_memS (fun S14 e_S14 => ?_)
  refine V_memI (fun I16 e_I16 => ?_)
  replace h := h a15 S14 e_S14 I16 e_I16
  have hM9 := hN
  have hN9 : S14.2.1 = 71 := by rw [e_S14]; show _ + 1 = 71; rw [hN]
  have hc9 : q_cl S14 := by rw [e_S14]; exact q_cl_new hc _ _ _
  have hE9 : Ex S S14 := by rw [e_S14]; exact hE.tr (Ex.new _ (by rw [hN]; decide) _ _ _)
  have hR9 : q_Rk 66 S S14 := by rw [e_S14]; exact hR.new hE.1 _ _ _
  have hK669 : S14.2.2.1 66 = 2 := by rw [e_S14]; exact (if_neg (by rw [hN]; decide)).trans hK66
  clear hc hE hR hK66  
  have hN := hN9
  have hc := hc9
  have hE := hE9
  have hR := hR9
  have hK66 := hK669
  clear hM9
  refine V_putF dX2_init_38 fl_RX2_25 rfl rfl rfl (by rw [hN]; decide) hK66 rfl (fun _ => rfl) (fun _ => rfl) ?_
  refine V_memS (fun S17 e_S17 => ?_)
  replace h := h S17 e_S17
  have hN9 : S17.2.1 = 71 := by rw [e_S17]; exact hN
  have hc9 : q_cl S17 := by rw [e_S17]; exact q_cl_put hc (by rw [hN]; decide)
  have hE9 : Ex S S17 := by rw [e_S17]; exact hE.tr (Ex.put _ _)
  have hR9 : q_Rk 66 S S17 := by rw [e_S17]; exact hR.put (Or.inl rfl)
  have hK669 : S17.2.2.1 66 = 2 := by rw [e_S17]; exact hK66
  clear hc hE hR hK66  
  have hN := hN9
  have hc := hc9
  have hE := hE9
  have hR := hR9
  have hK66 := hK669
  refine V_aload_n dX2_init_41 rfl rfl ?_
  refine V_bipush (v := 24) dX2_init_42 (by decide) ?_
  refine V_newI (z := 24) dX2_init_44 ac_int (by decide) (by decide) (by decide) (by rw [hN]; decide) hc (q_vbn hN rfl) (q_vbn hN rfl) (by decide) (by decide) (fun a19 => ?_)
  rw [hN]
  refine V_memS (fun S18 e_S18 => ?_)
  refine V_memI (fun I20 e_I20 => ?_)
  replace h := h a19 S18 e_S18 I20 e_I20
  have hM9 := hN
  have hN9 : S18.2.1 = 72 := by rw [e_S18]; show _ + 1 = 72; rw [hN]
  have hc9 : q_cl S18 := by rw [e_S18]; exact q_cl_new hc _ _ _
  have hE9 : Ex S S18 := by rw [e_S18]; exact hE.tr (Ex.new _ (by rw [hN]; decide) _ _ _)
  have hR9 : q_Rk 66 S S18 := by rw [e_S18]; exact hR.new hE.1 _ _ _
  have hK669 : S18.2.2.1 66 = 2 := by rw [e_S18]; exact (if_neg (by rw [hN]; decide)).trans hK66
  clear hc hE hR hK66  
  have hN := hN9
  have hc := hc9
  have hE := hE9
  have hR := hR9
  have hK66 := hK669
  clear hM9
  refine V_putF dX2_init_46 fl_RX2_28 rfl rfl rfl (by rw [hN]; decide) hK66 rfl (fun _ => rfl) (fun _ => rfl) ?_
  refine V_memS (fun S21 e_S21 => ?_)
  replace h := h S21 e_S21
  have hN9 : S21.2.1 = 72 := by rw [e_S21]; exact hN
  have hc9 : q_cl S21 := by rw [e_S21]; exact q_cl_put hc (by rw [hN]; decide)
  have hE9 : Ex S S21 := by rw [e_S21]; exact hE.tr (Ex.put _ _)
  have hR9 : q_Rk 66 S S21 := by rw [e_S21]; exact hR.put (Or.inl rfl)
  have hK669 : S21.2.2.1 66 = 2 := by rw [e_S21]; exact hK66
  clear hc hE hR hK66  
  have hN := hN9
  have hc := hc9
  have hE := hE9
  have hR := hR9
  have hK66 := hK669
  refine V_aload_n dX2_init_49 rfl rfl ?_
  refine V_bipush (v := 24) dX2_init_50 (by decide) ?_
  refine V_newI (z := 24) dX2_init_52 ac_int (by decide) (by decide) (by decide) (by rw [hN]; decide) hc (q_vbn hN rfl) (q_vbn hN rfl) (by decide) (by decide) (fun a23 => ?_)
  rw [hN]
  refine V_memS (fun S22 e_S22 => ?_)
  refine V_memI (fun I24 e_I24 => ?_)
  replace h := h a23 S22 e_S22 I24 e_I24
  have hM9 := hN
  have hN9 : S22.2.1 = 73 := by rw [e_S22]; show _ + 1 = 73; rw [hN]
  have hc9 : q_cl S22 := by rw [e_S22]; exact q_cl_new hc _ _ _
  have hE9 : Ex S S22 := by rw [e_S22]; exact hE.tr (Ex.new _ (by rw [hN]; decide) _ _ _)
  have hR9 : q_Rk 66 S S22 := by rw [e_S22]; exact hR.new hE.1 _ _ _
  have hK669 : S22.2.2.1 66 = 2 := by rw [e_S22]; exact (if_neg (by rw [hN]; decide)).trans hK66
  clear hc hE hR hK66  
  have hN := hN9
  have hc := hc9
  have hE := hE9
  have hR := hR9
  have hK66 := hK669
  clear hM9
  refine V_putF dX2_init_54 fl_RX2_31 rfl rfl rfl (by rw [hN]; decide) hK66 rfl (fun _ => rfl) (fun _ => rfl) ?_
  refine V_memS (fun S25 e_S25 => ?_)
  replace h := h S25 e_S25
  have hN9 : S25.2.1 = 73 := by rw [e_S25]; exact hN
  have hc9 : q_cl S25 := by rw [e_S25]; exact q_cl_put hc (by rw [hN]; decide)
  have hE9 : Ex S S25 := by rw [e_S25]; exact hE.tr (Ex.put _ _)
  have hR9 : q_Rk 66 S S25 := by rw [e_S25]; exact hR.put (Or.inl rfl)
  have hK669 : S25.2.2.1 66 = 2 := by rw [e_S25]; exact hK66
  clear hc hE hR hK66  
  have hN := hN9
  have hc := hc9
  have hE := hE9
  have hR := hR9
  have hK66 := hK669
  refine V_aload_n dX2_init_57 rfl rfl ?_
  refine V_bipush (v := 24) dX2_init_58 (by decide) ?_
  refine V_newI (z := 24) dX2_init_60 ac_int (by decide) (by decide) (by decide) (by rw [hN]; decide) hc (q_vbn hN rfl) (q_vbn hN rfl) (by decide) (by decide) (fun a27 => ?_)
  rw [hN]
  refine V_memS (fun S26 e_S26 => ?_)
  refine V_memI (fun I28 e_I28 => ?_)
  replace h := h a27 S26 e_S26 I28 e_I28
  have hM9 := hN
  have hN9 : S26.2.1 = 74 := by rw [e_S26]; show _ + 1 = 74; rw [hN]
  have hc9 : q_cl S26 := by rw [e_S26]; exact q_cl_new hc _ _ _
  have hE9 : Ex S S26 := by rw [e_S26]; exact hE.tr (Ex.new _ (by rw [hN]; decide) _ _ _)
  have hR9 : q_Rk 66 S S26 := by rw [e_S26]; exact hR.new hE.1 _ _ _
  have hK669 : S26.2.2.1 66 = 2 := by rw [e_S26]; exact (if_neg (by rw [hN]; decide)).trans hK66
  clear hc hE hR hK66  
  have hN := hN9
  have hc := hc9
  have hE := hE9
  have hR := hR9
  have hK66 := hK669
  clear hM9
  refine V_putF dX2_init_62 fl_RX2_34 rfl rfl rfl (by rw [hN]; decide) hK66 rfl (fun _ => rfl) (fun _ => rfl) ?_
  refine V_memS (fun S29 e_S29 => ?_)
  replace h := h S29 e_S29
  have hN9 : S29.2.1 = 74 := by rw [e_S29]; exact hN
  have hc9 : q_cl S29 := by rw [e_S29]; exact q_cl_put hc (by rw [hN]; decide)
  have hE9 : Ex S S29 := by rw [e_S29]; exact hE.tr (Ex.put _ _)
  have hR9 : q_Rk 66 S S29 := by rw [e_S29]; exact hR.put (Or.inl rfl)
  have hK669 : S29.2.2.1 66 = 2 := by rw [e_S29]; exact hK66
  clear hc hE hR hK66  
  have hN := hN9
  have hc := hc9
  have hE := hE9
  have hR := hR9
  have hK66 := hK669
  exact V_vret dX2_init_65 rfl (by decide) (by decide) ⟨rfl, hE, hc, by rw [hN, hN0], hR, h⟩
def w_X0_init_at74 (S : QS) (I : QI) (J : QJ) (post : QS → QI → QJ → Prop) : Prop := (∀ S1 : QS, S1 = q_sR S (q_u2 S.2.2.2.2 74 0 (some 52)) → (∀ S2 : QS, S2 = q_sR S1 (q_u2 S1.2.2.2.2 74 1 (some 66)) → (∀ a4 : Nat, ∀ S3 : QS, S3 = q_nS S2 a4 9 28800 → (∀ I5 : QI, I5 = q_rw I 75 (fun _ => 0) → (∀ S6 : QS, S6 = q_sR S3 (q_u2 S3.2.2.2.2 74 2 (some 75)) → (∀ a8 : Nat, ∀ S7 : QS, S7 = q_nS S6 a8 9 24 → (∀ I9 : QI, I9 = q_rw I5 76 (fun _ => 0) → (∀ S10 : QS, S10 = q_sR S7 (q_u2 S7.2.2.2.2 74 3 (some 76)) → (∀ a12 : Nat, ∀ S11 : QS, S11 = q_nS S10 a12 9 24 → (∀ I13 : QI, I13 = q_rw I9 77 (fun _ => 0) → (∀ S14 : QS, S14 = q_sR S11 (q_u2 S11.2.2.2.2 74 4 (some 77)) → (∀ a16 : Nat, ∀ S15 : QS, S15 = q_nS S14 a16 9 24 → (∀ I17 : QI, I17 = q_rw I13 78 (fun _ => 0) → (∀ S18 : QS, S18 = q_sR S15 (q_u2 S15.2.2.2.2 74 5 (some 78)) → (∀ a20 : Nat, ∀ S19 : QS, S19 = q_nS S18 a20 11 24 → (∀ I21 : QI, I21 = q_rw I17 79 (fun _ => 0) → (∀ S22 : QS, S22 = q_sR S19 (q_u2 S19.2.2.2.2 74 6 (some 79)) → (∀ a24 : Nat, ∀ S23 : QS, S23 = q_nS S22 a24 11 200 → (∀ I25 : QI, I25 = q_rw I21 80 (fun _ => 0) → (∀ S26 : QS, S26 = q_sR S23 (q_u2 S23.2.2.2.2 74 7 (some 80)) → (post S26 I25 J)))))))))))))))))))))
set_option maxRecDepth 100000 in
set_option maxHeartbeats 4000000 in
theorem s_X0_init_at74 {X : QX} {S : QS} {I : QI} {J : QJ} {post : QS → QI → QJ → Prop} (hN : S.2.1 = 75) (hc : q_cl S) (hK74 : S.2.2.1 74 = 0) (h : w_X0_init_at74 S I J post) : CX X mX0_init 1 6 29096 [.ref 74, .ref 52, .ref 66] S I J (q_Pk 74 S 6 post) := by
  have hN0 := hN
  have hE : Ex S S := Ex.rf
  have hR : q_Rk 74 S S := q_Rk.rf
  refine CX.of (lo := [(0, .ref 74), (1, .ref 52), (2, .ref 66)]) ok_mX0_init rfl (Nat.le_of_ble_eq_true rfl) rfl ?_
  replace h : (∀ S1 : QS, S1 = q_sR S (q_u2 S.2.2.2.2 74 0 (some 52)) → (∀ S2 : QS, S2 = q_sR S1 (q_u2 S1.2.2.2.2 74 1 (some 66)) → (∀ a4 : Nat, ∀ S3 : QS, S3 = q_nS S2 a4 9 28800 → (∀ I5 : QI, I5 = q_rw I 75 (fun _ => 0) → (∀ S6 : QS, S6 = q_sR S3 (q_u2 S3.2.2.2.2 74 2 (some 75)) → (∀ a8 : Nat, ∀ S7 : QS, S7 = q_nS S6 a8 9 24 → (∀ I9 : QI, I9 = q_rw I5 76 (fun _ => 0) → (∀ S10 : QS, S10 = q_sR S7 (q_u2 S7.2.2.2.2 74 3 (some 76)) → (∀ a12 : Nat, ∀ S11 : QS, S11 = q_nS S10 a12 9 24 → (∀ I13 : QI, I13 = q_rw I9 77 (fun _ => 0) → (∀ S14 : QS, S14 = q_sR S11 (q_u2 S11.2.2.2.2 74 4 (some 77)) → (∀ a16 : Nat, ∀ S15 : QS, S15 = q_nS S14 a16 9 24 → (∀ I17 : QI, I17 = q_rw I13 78 (fun _ => 0) → (∀ S18 : QS, S18 = q_sR S15 (q_u2 S15.2.2.2.2 74 5 (some 78)) → (∀ a20 : Nat, ∀ S19 : QS, S19 = q_nS S18 a20 11 24 → (∀ I21 : QI, I21 = q_rw I17 79 (fun _ => 0) → (∀ S22 : QS, S22 = q_sR S19 (q_u2 S19.2.2.2.2 74 6 (some 79)) → (∀ a24 : Nat, ∀ S23 : QS, S23 = q_nS S22 a24 11 200 → (∀ I25 : QI, I25 = q_rw I21 80 (fun _ => 0) → (∀ S26 : QS, S26 = q_sR S23 (q_u2 S23.2.2.2.2 74 7 (some 80)) → (post S26 I25 J))))))))))))))))))))) := h
  refine V_aload_n dX0_init_0 rfl rfl ?_
  refine V_objInit dX0_init_1 ml_RX0_3 ob_in ob_co (Nat.le_of_ble_eq_true rfl) ?_
  refine V_aload_n dX0_init_4 rfl rfl ?_
  refine V_aload_n dX0_init_5 rfl rfl ?_
  refine V_putF dX0_init_6 fl_RX0_9 rfl rfl rfl (by rw [hN]; decide) hK74 rfl (fun _ => rfl) (fun _ => rfl) ?_
  refine V_memS (fun S1 e_S1 => ?_)
  replace h := h S1 e_S1
  have hN9 : S1.2.1 = 75 := by rw [e_S1]; exact hN
  have hc9 : q_cl S1 := by rw [e_S1]; exact q_cl_put hc (by rw [hN]; decide)
  have hE9 : Ex S S1 := by rw [e_S1]; exact hE.tr (Ex.put _ _)
  have hR9 : q_Rk 74 S S1 := by rw [e_S1]; exact hR.put (Or.inl rfl)
  have hK749 : S1.2.2.1 74 = 0 := by rw [e_S1]; exact hK74
  clear hc hE hR hK74  
  have hN := hN9
  have hc := hc9
  have hE := hE9
  have hR := hR9
  have hK74 := hK749
  refine V_aload_n dX0_init_9 rfl rfl ?_
  refine V_aload_n dX0_init_10 rfl rfl ?_
  refine V_putF dX0_init_11 fl_RX0_15 rfl rfl rfl (by rw [hN]; decide) hK74 rfl (fun _ => rfl) (fun _ => rfl) ?_
  refine V_memS (fun S2 e_S2 => ?_)
  replace h := h S2 e_S2
  have hN9 : S2.2.1 = 75 := by rw [e_S2]; exact hN
  have hc9 : q_cl S2 := by rw [e_S2]; exact q_cl_put hc (by rw [hN]; decide)
  have hE9 : Ex S S2 := by rw [e_S2]; exact hE.tr (Ex.put _ _)
  have hR9 : q_Rk 74 S S2 := by rw [e_S2]; exact hR.put (Or.inl rfl)
  have hK749 : S2.2.2.1 74 = 0 := by rw [e_S2]; exact hK74
  clear hc hE hR hK74  
  have hN := hN9
  have hc := hc9
  have hE := hE9
  have hR := hR9
  have hK74 := hK749
  refine V_aload_n dX0_init_14 rfl rfl ?_
  refine V_sipush (v := 28800) dX0_init_15 (by decide) ?_
  refine V_newI (z := 28800) dX0_init_18 ac_int (by decide) (by decide) (by decide) (by rw [hN]; decide) hc (q_vbn hN rfl) (q_vbn hN rfl) (by decide) (by decide) (fun a4 => ?_)
  rw [hN]
  refine V_memS (fun S3 e_S3 => ?_)
  refine V_memI (fun I5 e_I5 => ?_)
  replace h := h a4 S3 e_S3 I5 e_I5
  have hM9 := hN
  have hN9 : S3.2.1 = 76 := by rw [e_S3]; show _ + 1 = 76; rw [hN]
  have hc9 : q_cl S3 := by rw [e_S3]; exact q_cl_new hc _ _ _
  have hE9 : Ex S S3 := by rw [e_S3]; exact hE.tr (Ex.new _ (by rw [hN]; decide) _ _ _)
  have hR9 : q_Rk 74 S S3 := by rw [e_S3]; exact hR.new hE.1 _ _ _
  have hK749 : S3.2.2.1 74 = 0 := by rw [e_S3]; exact (if_neg (by rw [hN]; decide)).trans hK74
  clear hc hE hR hK74  
  have hN := hN9
  have hc := hc9
  have hE := hE9
  have hR := hR9
  have hK74 := hK749
  clear hM9
  refine V_putF dX0_init_20 fl_RX0_19 rfl rfl rfl (by rw [hN]; decide) hK74 rfl (fun _ => rfl) (fun _ => rfl) ?_
  refine V_memS (fun S6 e_S6 => ?_)
  replace h := h S6 e_S6
  have hN9 : S6.2.1 = 76 := by rw [e_S6]; exact hN
  have hc9 : q_cl S6 := by rw [e_S6]; exact q_cl_put hc (by rw [hN]; decide)
  have hE9 : Ex S S6 := by rw [e_S6]; exact hE.tr (Ex.put _ _)
  have hR9 : q_Rk 74 S S6 := by rw [e_S6]; exact hR.put (Or.inl rfl)
  have hK749 : S6.2.2.1 74 = 0 := by rw [e_S6]; exact hK74
  clear hc hE hR hK74  
  have hN := hN9
  have hc := hc9
  have hE := hE9
  have hR := hR9
  have hK74 := hK749
  refine V_aload_n dX0_init_23 rfl rfl ?_
  refine V_bipush (v := 24) dX0_init_24 (by decide) ?_
  refine V_newI (z := 24) dX0_init_26 ac_int (by decide) (by decide) (by decide) (by rw [hN]; decide) hc (q_vbn hN rfl) (q_vbn hN rfl) (by decide) (by decide) (fun a8 => ?_)
  rw [hN]
  refine V_memS (fun S7 e_S7 => ?_)
  refine V_memI (fun I9 e_I9 => ?_)
  replace h := h a8 S7 e_S7 I9 e_I9
  have hM9 := hN
  have hN9 : S7.2.1 = 77 := by rw [e_S7]; show _ + 1 = 77; rw [hN]
  have hc9 : q_cl S7 := by rw [e_S7]; exact q_cl_new hc _ _ _
  have hE9 : Ex S S7 := by rw [e_S7]; exact hE.tr (Ex.new _ (by rw [hN]; decide) _ _ _)
  have hR9 : q_Rk 74 S S7 := by rw [e_S7]; exact hR.new hE.1 _ _ _
  have hK749 : S7.2.2.1 74 = 0 := by rw [e_S7]; exact (if_neg (by rw [hN]; decide)).trans hK74
  clear hc hE hR hK74  
  have hN := hN9
  have hc := hc9
  have hE := hE9
  have hR := hR9
  have hK74 := hK749
  clear hM9
  refine V_putF dX0_init_28 fl_RX0_23 rfl rfl rfl (by rw [hN]; decide) hK74 rfl (fun _ => rfl) (fun _ => rfl) ?_
  refine V_memS (fun S10 e_S10 => ?_)
  replace h := h S10 e_S10
  have hN9 : S10.2.1 = 77 := by rw [e_S10]; exact hN
  have hc9 : q_cl S10 := by rw [e_S10]; exact q_cl_put hc (by rw [hN]; decide)
  have hE9 : Ex S S10 := by rw [e_S10]; exact hE.tr (Ex.put _ _)
  have hR9 : q_Rk 74 S S10 := by rw [e_S10]; exact hR.put (Or.inl rfl)
  have hK749 : S10.2.2.1 74 = 0 := by rw [e_S10]; exact hK74
  clear hc hE hR hK74  
  have hN := hN9
  have hc := hc9
  have hE := hE9
  have hR := hR9
  have hK74 := hK749
  refine V_aload_n dX0_init_31 rfl rfl ?_
  refine V_bipush (v := 24) dX0_init_32 (by decide) ?_
  refine V_newI (z := 24) dX0_init_34 ac_int (by decide) (by decide) (by decide) (by rw [hN]; decide) hc (q_vbn hN rfl) (q_vbn hN rfl) (by decide) (by decide) (fun a12 => ?_)
  rw [hN]
  refine V_memS (fun S11 e_S11 => ?_)
  refine V_memI (fun I13 e_I13 => ?_)
  replace h := h a12 S11 e_S11 I13 e_I13
  have hM9 := hN
  have hN9 : S11.2.1 = 78 := by rw [e_S11]; show _ + 1 = 78; rw [hN]
  have hc9 : q_cl S11 := by rw [e_S11]; exact q_cl_new hc _ _ _
  have hE9 : Ex S S11 := by rw [e_S11]; exact hE.tr (Ex.new _ (by rw [hN]; decide) _ _ _)
  have hR9 : q_Rk 74 S S11 := by rw [e_S11]; exact hR.new hE.1 _ _ _
  have hK749 : S11.2.2.1 74 = 0 := by rw [e_S11]; exact (if_neg (by rw [hN]; decide)).trans hK74
  clear hc hE hR hK74  
  have hN := hN9
  have hc := hc9
  have hE := hE9
  have hR := hR9
  have hK74 := hK749
  clear hM9
  refine V_putF dX0_init_36 fl_RX0_26 rfl rfl rfl (by rw [hN]; decide) hK74 rfl (fun _ => rfl) (fun _ => rfl) ?_
  refine V_memS (fun S14 e_S14 => ?_)
  replace h := h S14 e_S14
  have hN9 : S14.2.1 = 78 := by rw [e_S14]; exact hN
  have hc9 : q_cl S14 := by rw [e_S14]; exact q_cl_put hc (by rw [hN]; decide)
  have hE9 : Ex S S14 := by rw [e_S14]; exact hE.tr (Ex.put _ _)
  have hR9 : q_Rk 74 S S14 := by rw [e_S14]; exact hR.put (Or.inl rfl)
  have hK749 : S14.2.2.1 74 = 0 := by rw [e_S14]; exact hK74
  clear hc hE hR hK74  
  have hN := hN9
  have hc := hc9
  have hE := hE9
  have hR := hR9
  have hK74 := hK749
  refine V_aload_n dX0_init_39 rfl rfl ?_
  refine V_bipush (v := 24) dX0_init_40 (by decide) ?_
  refine V_newI (z := 24) dX0_init_42 ac_int (by decide) (by decide) (by decide) (by rw [hN]; decide) hc (q_vbn hN rfl) (q_vbn hN rfl) (by decide) (by decide) (fun a16 => ?_)
  rw [hN]
  refine V_memS (fun S15 e_S15 => ?_)
  refine V_memI (fun I17 e_I17 => ?_)
  replace h := h a16 S15 e_S15 I17 e_I17
  have hM9 := hN
  have hN9 : S15.2.1 = 79 := by rw [e_S15]; show _ + 1 = 79; rw [hN]
  have hc9 : q_cl S15 := by rw [e_S15]; exact q_cl_new hc _ _ _
  have hE9 : Ex S S15 := by rw [e_S15]; exact hE.tr (Ex.new _ (by rw [hN]; decide) _ _ _)
  have hR9 : q_Rk 74 S S15 := by rw [e_S15]; exact hR.new hE.1 _ _ _
  have hK749 : S15.2.2.1 74 = 0 := by rw [e_S15]; exact (if_neg (by rw [hN]; decide)).trans hK74
  clear hc hE hR hK74  
  have hN := hN9
  have hc := hc9
  have hE := hE9
  have hR := hR9
  have hK74 := hK749
  clear hM9
  refine V_putF dX0_init_44 fl_RX0_29 rfl rfl rfl (by rw [hN]; decide) hK74 rfl (fun _ => rfl) (fun _ => rfl) ?_
  refine V_memS (fun S18 e_S18 => ?_)
  replace h := h S18 e_S18
  have hN9 : S18.2.1 = 79 := by rw [e_S18]; exact hN
  have hc9 : q_cl S18 := by rw [e_S18]; exact q_cl_put hc (by rw [hN]; decide)
  have hE9 : Ex S S18 := by rw [e_S18]; exact hE.tr (Ex.put _ _)
  have hR9 : q_Rk 74 S S18 := by rw [e_S18]; exact hR.put (Or.inl rfl)
  have hK749 : S18.2.2.1 74 = 0 := by rw [e_S18]; exact hK74
  clear hc hE hR hK74  
  have hN := hN9
  have hc := hc9
  have hE := hE9
  have hR := hR9
  have hK74 := hK749
  refine V_aload_n dX0_init_47 rfl rfl ?_
  refine V_bipush (v := 24) dX0_init_48 (by decide) ?_
  refine V_newZ (z := 24) dX0_init_50 ac_boolean (by decide) (by decide) (by decide) (by rw [hN]; decide) hc (q_vbn hN rfl) (q_vbn hN rfl) (by decide) (by decide) (fun a20 => ?_)
  rw [hN]
  refine V_memS (fun S19 e_S19 => ?_)
  refine V_memI (fun I21 e_I21 => ?_)
  replace h := h a20 S19 e_S19 I21 e_I21
  have hM9 := hN
  have hN9 : S19.2.1 = 80 := by rw [e_S19]; show _ + 1 = 80; rw [hN]
  have hc9 : q_cl S19 := by rw [e_S19]; exact q_cl_new hc _ _ _
  have hE9 : Ex S S19 := by rw [e_S19]; exact hE.tr (Ex.new _ (by rw [hN]; decide) _ _ _)
  have hR9 : q_Rk 74 S S19 := by rw [e_S19]; exact hR.new hE.1 _ _ _
  have hK749 : S19.2.2.1 74 = 0 := by rw [e_S19]; exact (if_neg (by rw [hN]; decide)).trans hK74
  clear hc hE hR hK74  
  have hN := hN9
  have hc := hc9
  have hE := hE9
  have hR := hR9
  have hK74 := hK749
  clear hM9
  refine V_putF dX0_init_52 fl_RX0_32 rfl rfl rfl (by rw [hN]; decide) hK74 rfl (fun _ => rfl) (fun _ => rfl) ?_
  refine V_memS (fun S22 e_S22 => ?_)
  replace h := h S22 e_S22
  have hN9 : S22.2.1 = 80 := by rw [e_S22]; exact hN
  have hc9 : q_cl S22 := by rw [e_S22]; exact q_cl_put hc (by rw [hN]; decide)
  have hE9 : Ex S S22 := by rw [e_S22]; exact hE.tr (Ex.put _ _)
  have hR9 : q_Rk 74 S S22 := by rw [e_S22]; exact hR.put (Or.inl rfl)
  have hK749 : S22.2.2.1 74 = 0 := by rw [e_S22]; exact hK74
  clear hc hE hR hK74  
  have hN := hN9
  have hc := hc9
  have hE := hE9
  have hR := hR9
  have hK74 := hK749
  refine V_aload_n dX0_init_55 rfl rfl ?_
  refine V_sipush (v := 200) dX0_init_56 (by decide) ?_
  refine V_newZ (z := 200) dX0_init_59 ac_boolean (by decide) (by decide) (by decide) (by rw [hN]; decide) hc (q_vbn hN rfl) (q_vbn hN rfl) (by decide) (by decide) (fun a24 => ?_)
  rw [hN]
  refine V_memS (fun S23 e_S23 => ?_)
  refine V_memI (fun I25 e_I25 => ?_)
  replace h := h a24 S23 e_S23 I25 e_I25
  have hM9 := hN
  have hN9 : S23.2.1 = 81 := by rw [e_S23]; show _ + 1 = 81; rw [hN]
  have hc9 : q_cl S23 := by rw [e_S23]; exact q_cl_new hc _ _ _
  have hE9 : Ex S S23 := by rw [e_S23]; exact hE.tr (Ex.new _ (by rw [hN]; decide) _ _ _)
  have hR9 : q_Rk 74 S S23 := by rw [e_S23]; exact hR.new hE.1 _ _ _
  have hK749 : S23.2.2.1 74 = 0 := by rw [e_S23]; exact (if_neg (by rw [hN]; decide)).trans hK74
  clear hc hE hR hK74  
  have hN := hN9
  have hc := hc9
  have hE := hE9
  have hR := hR9
  have hK74 := hK749
  clear hM9
  refine V_putF dX0_init_61 fl_RX0_36 rfl rfl rfl (by rw [hN]; decide) hK74 rfl (fun _ => rfl) (fun _ => rfl) ?_
  refine V_memS (fun S26 e_S26 => ?_)
  replace h := h S26 e_S26
  have hN9 : S26.2.1 = 81 := by rw [e_S26]; exact hN
  have hc9 : q_cl S26 := by rw [e_S26]; exact q_cl_put hc (by rw [hN]; decide)
  have hE9 : Ex S S26 := by rw [e_S26]; exact hE.tr (Ex.put _ _)
  have hR9 : q_Rk 74 S S26 := by rw [e_S26]; exact hR.put (Or.inl rfl)
  have hK749 : S26.2.2.1 74 = 0 := by rw [e_S26]; exact hK74
  clear hc hE hR hK74  
  have hN := hN9
  have hc := hc9
  have hE := hE9
  have hR := hR9
  have hK74 := hK749
  exact V_vret dX0_init_64 rfl (by decide) (by decide) ⟨rfl, hE, hc, by rw [hN, hN0], hR, h⟩
def w_X3_init_at81 (S : QS) (I : QI) (J : QJ) (post : QS → QI → QJ → Prop) : Prop := (∀ S1 : QS, S1 = q_sR S (q_u2 S.2.2.2.2 81 0 (some 66)) → (∀ a3 : Nat, ∀ S2 : QS, S2 = q_nS S1 a3 9 600 → (∀ I4 : QI, I4 = q_rw I 82 (fun _ => 0) → (∀ S5 : QS, S5 = q_sR S2 (q_u2 S2.2.2.2.2 81 1 (some 82)) → (∀ a7 : Nat, ∀ S6 : QS, S6 = q_nS S5 a7 9 25 → (∀ I8 : QI, I8 = q_rw I4 83 (fun _ => 0) → (∀ S9 : QS, S9 = q_sR S6 (q_u2 S6.2.2.2.2 81 2 (some 83)) → (∀ a11 : Nat, ∀ S10 : QS, S10 = q_nS S9 a11 9 256 → (∀ I12 : QI, I12 = q_rw I8 84 (fun _ => 0) → (∀ S13 : QS, S13 = q_sR S10 (q_u2 S10.2.2.2.2 81 3 (some 84)) → (∀ a15 : Nat, ∀ S14 : QS, S14 = q_nS S13 a15 9 256 → (∀ I16 : QI, I16 = q_rw I12 85 (fun _ => 0) → (∀ S17 : QS, S17 = q_sR S14 (q_u2 S14.2.2.2.2 81 4 (some 85)) → (∀ a19 : Nat, ∀ S18 : QS, S18 = q_nS S17 a19 9 6144 → (∀ I20 : QI, I20 = q_rw I16 86 (fun _ => 0) → (∀ S21 : QS, S21 = q_sR S18 (q_u2 S18.2.2.2.2 81 5 (some 86)) → (∀ a23 : Nat, ∀ S22 : QS, S22 = q_nS S21 a23 9 256 → (∀ I24 : QI, I24 = q_rw I20 87 (fun _ => 0) → (∀ S25 : QS, S25 = q_sR S22 (q_u2 S22.2.2.2.2 81 6 (some 87)) → (post S25 I24 J))))))))))))))))))))
set_option maxRecDepth 100000 in
set_option maxHeartbeats 4000000 in
theorem s_X3_init_at81 {X : QX} {S : QS} {I : QI} {J : QJ} {post : QS → QI → QJ → Prop} (hN : S.2.1 = 82) (hc : q_cl S) (hK81 : S.2.2.1 81 = 3) (h : w_X3_init_at81 S I J post) : CX X mX3_init 1 6 7537 [.ref 81, .ref 66] S I J (q_Pk 81 S 6 post) := by
  have hN0 := hN
  have hE : Ex S S := Ex.rf
  have hR : q_Rk 81 S S := q_Rk.rf
  refine CX.of (lo := [(0, .ref 81), (1, .ref 66)]) ok_mX3_init rfl (Nat.le_of_ble_eq_true rfl) rfl ?_
  replace h : (∀ S1 : QS, S1 = q_sR S (q_u2 S.2.2.2.2 81 0 (some 66)) → (∀ a3 : Nat, ∀ S2 : QS, S2 = q_nS S1 a3 9 600 → (∀ I4 : QI, I4 = q_rw I 82 (fun _ => 0) → (∀ S5 : QS, S5 = q_sR S2 (q_u2 S2.2.2.2.2 81 1 (some 82)) → (∀ a7 : Nat, ∀ S6 : QS, S6 = q_nS S5 a7 9 25 → (∀ I8 : QI, I8 = q_rw I4 83 (fun _ => 0) → (∀ S9 : QS, S9 = q_sR S6 (q_u2 S6.2.2.2.2 81 2 (some 83)) → (∀ a11 : Nat, ∀ S10 : QS, S10 = q_nS S9 a11 9 256 → (∀ I12 : QI, I12 = q_rw I8 84 (fun _ => 0) → (∀ S13 : QS, S13 = q_sR S10 (q_u2 S10.2.2.2.2 81 3 (some 84)) → (∀ a15 : Nat, ∀ S14 : QS, S14 = q_nS S13 a15 9 256 → (∀ I16 : QI, I16 = q_rw I12 85 (fun _ => 0) → (∀ S17 : QS, S17 = q_sR S14 (q_u2 S14.2.2.2.2 81 4 (some 85)) → (∀ a19 : Nat, ∀ S18 : QS, S18 = q_nS S17 a19 9 6144 → (∀ I20 : QI, I20 = q_rw I16 86 (fun _ => 0) → (∀ S21 : QS, S21 = q_sR S18 (q_u2 S18.2.2.2.2 81 5 (some 86)) → (∀ a23 : Nat, ∀ S22 : QS, S22 = q_nS S21 a23 9 256 → (∀ I24 : QI, I24 = q_rw I20 87 (fun _ => 0) → (∀ S25 : QS, S25 = q_sR S22 (q_u2 S22.2.2.2.2 81 6 (some 87)) → (post S25 I24 J)))))))))))))))))))) := h
  refine V_aload_n dX3_init_0 rfl rfl ?_
  refine V_objInit dX3_init_1 ml_RX3_5 ob_in ob_co (Nat.le_of_ble_eq_true rfl) ?_
  refine V_aload_n dX3_init_4 rfl rfl ?_
  refine V_aload_n dX3_init_5 rfl rfl ?_
  refine V_putF dX3_init_6 fl_RX3_11 rfl rfl rfl (by rw [hN]; decide) hK81 rfl (fun _ => rfl) (fun _ => rfl) ?_
  refine V_memS (fun S1 e_S1 => ?_)
  replace h := h S1 e_S1
  have hN9 : S1.2.1 = 82 := by rw [e_S1]; exact hN
  have hc9 : q_cl S1 := by rw [e_S1]; exact q_cl_put hc (by rw [hN]; decide)
  have hE9 : Ex S S1 := by rw [e_S1]; exact hE.tr (Ex.put _ _)
  have hR9 : q_Rk 81 S S1 := by rw [e_S1]; exact hR.put (Or.inl rfl)
  have hK819 : S1.2.2.1 81 = 3 := by rw [e_S1]; exact hK81
  clear hc hE hR hK81  
  have hN := hN9
  have hc := hc9
  have hE := hE9
  have hR := hR9
  have hK81 := hK819
  refine V_aload_n dX3_init_9 rfl rfl ?_
  refine V_sipush (v := 600) dX3_init_10 (by decide) ?_
  refine V_newI (z := 600) dX3_init_13 ac_int (by decide) (by decide) (by decide) (by rw [hN]; decide) hc (q_vbn hN rfl) (q_vbn hN rfl) (by decide) (by decide) (fun a3 => ?_)
  rw [hN]
  refine V_memS (fun S2 e_S2 => ?_)
  refine V_memI (fun I4 e_I4 => ?_)
  replace h := h a3 S2 e_S2 I4 e_I4
  have hM9 := hN
  have hN9 : S2.2.1 = 83 := by rw [e_S2]; show _ + 1 = 83; rw [hN]
  have hc9 : q_cl S2 := by rw [e_S2]; exact q_cl_new hc _ _ _
  have hE9 : Ex S S2 := by rw [e_S2]; exact hE.tr (Ex.new _ (by rw [hN]; decide) _ _ _)
  have hR9 : q_Rk 81 S S2 := by rw [e_S2]; exact hR.new hE.1 _ _ _
  have hK819 : S2.2.2.1 81 = 3 := by rw [e_S2]; exact (if_neg (by rw [hN]; decide)).trans hK81
  clear hc hE hR hK81  
  have hN := hN9
  have hc := hc9
  have hE := hE9
  have hR := hR9
  have hK81 := hK819
  clear hM9
  refine V_putF dX3_init_15 fl_RX3_15 rfl rfl rfl (by rw [hN]; decide) hK81 rfl (fun _ => rfl) (fun _ => rfl) ?_
  refine V_memS (fun S5 e_S5 => ?_)
  replace h := h S5 e_S5
  have hN9 : S5.2.1 = 83 := by rw [e_S5]; exact hN
  have hc9 : q_cl S5 := by rw [e_S5]; exact q_cl_put hc (by rw [hN]; decide)
  have hE9 : Ex S S5 := by rw [e_S5]; exact hE.tr (Ex.put _ _)
  have hR9 : q_Rk 81 S S5 := by rw [e_S5]; exact hR.put (Or.inl rfl)
  have hK819 : S5.2.2.1 81 = 3 := by rw [e_S5]; exact hK81
  clear hc hE hR hK81  
  have hN := hN9
  have hc := hc9
  have hE := hE9
  have hR := hR9
  have hK81 := hK819
  refine V_aload_n dX3_init_18 rfl rfl ?_
  refine V_bipush (v := 25) dX3_init_19 (by decide) ?_
  refine V_newI (z := 25) dX3_init_21 ac_int (by decide) (by decide) (by decide) (by rw [hN]; decide) hc (q_vbn hN rfl) (q_vbn hN rfl) (by decide) (by decide) (fun a7 => ?_)
  rw [hN]
  refine V_memS (fun S6 e_S6 => ?_)
  refine V_memI (fun I8 e_I8 => ?_)
  replace h := h a7 S6 e_S6 I8 e_I8
  have hM9 := hN
  have hN9 : S6.2.1 = 84 := by rw [e_S6]; show _ + 1 = 84; rw [hN]
  have hc9 : q_cl S6 := by rw [e_S6]; exact q_cl_new hc _ _ _
  have hE9 : Ex S S6 := by rw [e_S6]; exact hE.tr (Ex.new _ (by rw [hN]; decide) _ _ _)
  have hR9 : q_Rk 81 S S6 := by rw [e_S6]; exact hR.new hE.1 _ _ _
  have hK819 : S6.2.2.1 81 = 3 := by rw [e_S6]; exact (if_neg (by rw [hN]; decide)).trans hK81
  clear hc hE hR hK81  
  have hN := hN9
  have hc := hc9
  have hE := hE9
  have hR := hR9
  have hK81 := hK819
  clear hM9
  refine V_putF dX3_init_23 fl_RX3_19 rfl rfl rfl (by rw [hN]; decide) hK81 rfl (fun _ => rfl) (fun _ => rfl) ?_
  refine V_memS (fun S9 e_S9 => ?_)
  replace h := h S9 e_S9
  have hN9 : S9.2.1 = 84 := by rw [e_S9]; exact hN
  have hc9 : q_cl S9 := by rw [e_S9]; exact q_cl_put hc (by rw [hN]; decide)
  have hE9 : Ex S S9 := by rw [e_S9]; exact hE.tr (Ex.put _ _)
  have hR9 : q_Rk 81 S S9 := by rw [e_S9]; exact hR.put (Or.inl rfl)
  have hK819 : S9.2.2.1 81 = 3 := by rw [e_S9]; exact hK81
  clear hc hE hR hK81  
  have hN := hN9
  have hc := hc9
  have hE := hE9
  have hR := hR9
  have hK81 := hK819
  refine V_aload_n dX3_init_26 rfl rfl ?_
  refine V_sipush (v := 256) dX3_init_27 (by decide) ?_
  refine V_newI (z := 256) dX3_init_30 ac_int (by decide) (by decide) (by decide) (by rw [hN]; decide) hc (q_vbn hN rfl) (q_vbn hN rfl) (by decide) (by decide) (fun a11 => ?_)
  rw [hN]
  refine V_memS (fun S10 e_S10 => ?_)
  refine V_memI (fun I12 e_I12 => ?_)
  replace h := h a11 S10 e_S10 I12 e_I12
  have hM9 := hN
  have hN9 : S10.2.1 = 85 := by rw [e_S10]; show _ + 1 = 85; rw [hN]
  have hc9 : q_cl S10 := by rw [e_S10]; exact q_cl_new hc _ _ _
  have hE9 : Ex S S10 := by rw [e_S10]; exact hE.tr (Ex.new _ (by rw [hN]; decide) _ _ _)
  have hR9 : q_Rk 81 S S10 := by rw [e_S10]; exact hR.new hE.1 _ _ _
  have hK819 : S10.2.2.1 81 = 3 := by rw [e_S10]; exact (if_neg (by rw [hN]; decide)).trans hK81
  clear hc hE hR hK81  
  have hN := hN9
  have hc := hc9
  have hE := hE9
  have hR := hR9
  have hK81 := hK819
  clear hM9
  refine V_putF dX3_init_32 fl_RX3_22 rfl rfl rfl (by rw [hN]; decide) hK81 rfl (fun _ => rfl) (fun _ => rfl) ?_
  refine V_memS (fun S13 e_S13 => ?_)
  replace h := h S13 e_S13
  have hN9 : S13.2.1 = 85 := by rw [e_S13]; exact hN
  have hc9 : q_cl S13 := by rw [e_S13]; exact q_cl_put hc (by rw [hN]; decide)
  have hE9 : Ex S S13 := by rw [e_S13]; exact hE.tr (Ex.put _ _)
  have hR9 : q_Rk 81 S S13 := by rw [e_S13]; exact hR.put (Or.inl rfl)
  have hK819 : S13.2.2.1 81 = 3 := by rw [e_S13]; exact hK81
  clear hc hE hR hK81  
  have hN := hN9
  have hc := hc9
  have hE := hE9
  have hR := hR9
  have hK81 := hK819
  refine V_aload_n dX3_init_35 rfl rfl ?_
  refine V_sipush (v := 256) dX3_init_36 (by decide) ?_
  refine V_newI (z := 256) dX3_init_39 ac_int (by decide) (by decide) (by decide) (by rw [hN]; decide) hc (q_vbn hN rfl) (q_vbn hN rfl) (by decide) (by decide) (fun a15 => ?_)
  rw [hN]
  refine V_memS (fun S14 e_S14 => ?_)
  refine V_memI (fun I16 e_I16 => ?_)
  replace h := h a15 S14 e_S14 I16 e_I16
  have hM9 := hN
  have hN9 : S14.2.1 = 86 := by rw [e_S14]; show _ + 1 = 86; rw [hN]
  have hc9 : q_cl S14 := by rw [e_S14]; exact q_cl_new hc _ _ _
  have hE9 : Ex S S14 := by rw [e_S14]; exact hE.tr (Ex.new _ (by rw [hN]; decide) _ _ _)
  have hR9 : q_Rk 81 S S14 := by rw [e_S14]; exact hR.new hE.1 _ _ _
  have hK819 : S14.2.2.1 81 = 3 := by rw [e_S14]; exact (if_neg (by rw [hN]; decide)).trans hK81
  clear hc hE hR hK81  
  have hN := hN9
  have hc := hc9
  have hE := hE9
  have hR := hR9
  have hK81 := hK819
  clear hM9
  refine V_putF dX3_init_41 fl_RX3_25 rfl rfl rfl (by rw [hN]; decide) hK81 rfl (fun _ => rfl) (fun _ => rfl) ?_
  refine V_memS (fun S17 e_S17 => ?_)
  replace h := h S17 e_S17
  have hN9 : S17.2.1 = 86 := by rw [e_S17]; exact hN
  have hc9 : q_cl S17 := by rw [e_S17]; exact q_cl_put hc (by rw [hN]; decide)
  have hE9 : Ex S S17 := by rw [e_S17]; exact hE.tr (Ex.put _ _)
  have hR9 : q_Rk 81 S S17 := by rw [e_S17]; exact hR.put (Or.inl rfl)
  have hK819 : S17.2.2.1 81 = 3 := by rw [e_S17]; exact hK81
  clear hc hE hR hK81  
  have hN := hN9
  have hc := hc9
  have hE := hE9
  have hR := hR9
  have hK81 := hK819
  refine V_aload_n dX3_init_44 rfl rfl ?_
  refine V_sipush (v := 6144) dX3_init_45 (by decide) ?_
  refine V_newI (z := 6144) dX3_init_48 ac_int (by decide) (by decide) (by decide) (by rw [hN]; decide) hc (q_vbn hN rfl) (q_vbn hN rfl) (by decide) (by decide) (fun a19 => ?_)
  rw [hN]
  refine V_memS (fun S18 e_S18 => ?_)
  refine V_memI (fun I20 e_I20 => ?_)
  replace h := h a19 S18 e_S18 I20 e_I20
  have hM9 := hN
  have hN9 : S18.2.1 = 87 := by rw [e_S18]; show _ + 1 = 87; rw [hN]
  have hc9 : q_cl S18 := by rw [e_S18]; exact q_cl_new hc _ _ _
  have hE9 : Ex S S18 := by rw [e_S18]; exact hE.tr (Ex.new _ (by rw [hN]; decide) _ _ _)
  have hR9 : q_Rk 81 S S18 := by rw [e_S18]; exact hR.new hE.1 _ _ _
  have hK819 : S18.2.2.1 81 = 3 := by rw [e_S18]; exact (if_neg (by rw [hN]; decide)).trans hK81
  clear hc hE hR hK81  
  have hN := hN9
  have hc := hc9
  have hE := hE9
  have hR := hR9
  have hK81 := hK819
  clear hM9
  refine V_putF dX3_init_50 fl_RX3_28 rfl rfl rfl (by rw [hN]; decide) hK81 rfl (fun _ => rfl) (fun _ => rfl) ?_
  refine V_memS (fun S21 e_S21 => ?_)
  replace h := h S21 e_S21
  have hN9 : S21.2.1 = 87 := by rw [e_S21]; exact hN
  have hc9 : q_cl S21 := by rw [e_S21]; exact q_cl_put hc (by rw [hN]; decide)
  have hE9 : Ex S S21 := by rw [e_S21]; exact hE.tr (Ex.put _ _)
  have hR9 : q_Rk 81 S S21 := by rw [e_S21]; exact hR.put (Or.inl rfl)
  have hK819 : S21.2.2.1 81 = 3 := by rw [e_S21]; exact hK81
  clear hc hE hR hK81  
  have hN := hN9
  have hc := hc9
  have hE := hE9
  have hR := hR9
  have hK81 := hK819
  refine V_aload_n dX3_init_53 rfl rfl ?_
  refine V_sipush (v := 256) dX3_init_54 (by decide) ?_
  refine V_newI (z := 256) dX3_init_57 ac_int (by decide) (by decide) (by decide) (by rw [hN]; decide) hc (q_vbn hN rfl) (q_vbn hN rfl) (by decide) (by decide) (fun a23 => ?_)
  rw [hN]
  refine V_memS (fun S22 e_S22 => ?_)
  refine V_memI (fun I24 e_I24 => ?_)
  replace h := h a23 S22 e_S22 I24 e_I24
  have hM9 := hN
  have hN9 : S22.2.1 = 88 := by rw [e_S22]; show _ + 1 = 88; rw [hN]
  have hc9 : q_cl S22 := by rw [e_S22]; exact q_cl_new hc _ _ _
  have hE9 : Ex S S22 := by rw [e_S22]; exact hE.tr (Ex.new _ (by rw [hN]; decide) _ _ _)
  have hR9 : q_Rk 81 S S22 := by rw [e_S22]; exact hR.new hE.1 _ _ _
  have hK819 : S22.2.2.1 81 = 3 := by rw [e_S22]; exact (if_neg (by rw [hN]; decide)).trans hK81
  clear hc hE hR hK81  
  have hN := hN9
  have hc := hc9
  have hE := hE9
  have hR := hR9
  have hK81 := hK819
  clear hM9
  refine V_putF dX3_init_59 fl_RX3_31 rfl rfl rfl (by rw [hN]; decide) hK81 rfl (fun _ => rfl) (fun _ => rfl) ?_
  refine V_memS (fun S25 e_S25 => ?_)
  replace h := h S25 e_S25
  have hN9 : S25.2.1 = 88 := by rw [e_S25]; exact hN
  have hc9 : q_cl S25 := by rw [e_S25]; exact q_cl_put hc (by rw [hN]; decide)
  have hE9 : Ex S S25 := by rw [e_S25]; exact hE.tr (Ex.put _ _)
  have hR9 : q_Rk 81 S S25 := by rw [e_S25]; exact hR.put (Or.inl rfl)
  have hK819 : S25.2.2.1 81 = 3 := by rw [e_S25]; exact hK81
  clear hc hE hR hK81  
  have hN := hN9
  have hc := hc9
  have hE := hE9
  have hR := hR9
  have hK81 := hK819
  exact V_vret dX3_init_62 rfl (by decide) (by decide) ⟨rfl, hE, hc, by rw [hN, hN0], hR, h⟩
def w_X1_init_at88 (S : QS) (I : QI) (J : QJ) (post : QS → QI → QJ → Prop) : Prop := (∀ S1 : QS, S1 = q_sR S (q_u2 S.2.2.2.2 88 0 (some 52)) → (∀ a3 : Nat, ∀ S2 : QS, S2 = q_nS S1 a3 9 6 → (∀ I4 : QI, I4 = q_rw I 89 (fun _ => 0) → (∀ S5 : QS, S5 = q_sR S2 (q_u2 S2.2.2.2.2 88 1 (some 89)) → (∀ a7 : Nat, ∀ S6 : QS, S6 = q_nS S5 a7 9 6 → (∀ I8 : QI, I8 = q_rw I4 90 (fun _ => 0) → (∀ S9 : QS, S9 = q_sR S6 (q_u2 S6.2.2.2.2 88 2 (some 90)) → (∀ a11 : Nat, ∀ S10 : QS, S10 = q_nS S9 a11 9 6 → (∀ I12 : QI, I12 = q_rw I8 91 (fun _ => 0) → (∀ S13 : QS, S13 = q_sR S10 (q_u2 S10.2.2.2.2 88 3 (some 91)) → (∀ a15 : Nat, ∀ S14 : QS, S14 = q_nS S13 a15 9 6 → (∀ I16 : QI, I16 = q_rw I12 92 (fun _ => 0) → (∀ S17 : QS, S17 = q_sR S14 (q_u2 S14.2.2.2.2 88 4 (some 92)) → (∀ a19 : Nat, ∀ S18 : QS, S18 = q_nS S17 a19 9 4 → (∀ I20 : QI, I20 = q_rw I16 93 (fun _ => 0) → (∀ S21 : QS, S21 = q_sR S18 (q_u2 S18.2.2.2.2 88 5 (some 93)) → (∀ a23 : Nat, ∀ S22 : QS, S22 = q_nS S21 a23 9 6 → (∀ I24 : QI, I24 = q_rw I20 94 (fun _ => 0) → (∀ S25 : QS, S25 = q_sR S22 (q_u2 S22.2.2.2.2 88 6 (some 94)) → (∀ a27 : Nat, ∀ S26 : QS, S26 = q_nS S25 a27 9 16 → (∀ I28 : QI, I28 = q_rw I24 95 (fun _ => 0) → (∀ S29 : QS, S29 = q_sR S26 (q_u2 S26.2.2.2.2 88 7 (some 95)) → (∀ a31 : Nat, ∀ S30 : QS, S30 = q_nS S29 a31 9 16 → (∀ I32 : QI, I32 = q_rw I28 96 (fun _ => 0) → (∀ S33 : QS, S33 = q_sR S30 (q_u2 S30.2.2.2.2 88 8 (some 96)) → (post S33 I32 J))))))))))))))))))))))))))
set_option maxRecDepth 100000 in
set_option maxHeartbeats 4000000 in
theorem s_X1_init_at88 {X : QX} {S : QS} {I : QI} {J : QJ} {post : QS → QI → QJ → Prop} (hN : S.2.1 = 89) (hc : q_cl S) (hK88 : S.2.2.1 88 = 1) (h : w_X1_init_at88 S I J post) : CX X mX1_init 1 8 66 [.ref 88, .ref 52] S I J (q_Pk 88 S 8 post) := by
  have hN0 := hN
  have hE : Ex S S := Ex.rf
  have hR : q_Rk 88 S S := q_Rk.rf
  refine CX.of (lo := [(0, .ref 88), (1, .ref 52)]) ok_mX1_init rfl (Nat.le_of_ble_eq_true rfl) rfl ?_
  replace h : (∀ S1 : QS, S1 = q_sR S (q_u2 S.2.2.2.2 88 0 (some 52)) → (∀ a3 : Nat, ∀ S2 : QS, S2 = q_nS S1 a3 9 6 → (∀ I4 : QI, I4 = q_rw I 89 (fun _ => 0) → (∀ S5 : QS, S5 = q_sR S2 (q_u2 S2.2.2.2.2 88 1 (some 89)) → (∀ a7 : Nat, ∀ S6 : QS, S6 = q_nS S5 a7 9 6 → (∀ I8 : QI, I8 = q_rw I4 90 (fun _ => 0) → (∀ S9 : QS, S9 = q_sR S6 (q_u2 S6.2.2.2.2 88 2 (some 90)) → (∀ a11 : Nat, ∀ S10 : QS, S10 = q_nS S9 a11 9 6 → (∀ I12 : QI, I12 = q_rw I8 91 (fun _ => 0) → (∀ S13 : QS, S13 = q_sR S10 (q_u2 S10.2.2.2.2 88 3 (some 91)) → (∀ a15 : Nat, ∀ S14 : QS, S14 = q_nS S13 a15 9 6 → (∀ I16 : QI, I16 = q_rw I12 92 (fun _ => 0) → (∀ S17 : QS, S17 = q_sR S14 (q_u2 S14.2.2.2.2 88 4 (some 92)) → (∀ a19 : Nat, ∀ S18 : QS, S18 = q_nS S17 a19 9 4 → (∀ I20 : QI, I20 = q_rw I16 93 (fun _ => 0) → (∀ S21 : QS, S21 = q_sR S18 (q_u2 S18.2.2.2.2 88 5 (some 93)) → (∀ a23 : Nat, ∀ S22 : QS, S22 = q_nS S21 a23 9 6 → (∀ I24 : QI, I24 = q_rw I20 94 (fun _ => 0) → (∀ S25 : QS, S25 = q_sR S22 (q_u2 S22.2.2.2.2 88 6 (some 94)) → (∀ a27 : Nat, ∀ S26 : QS, S26 = q_nS S25 a27 9 16 → (∀ I28 : QI, I28 = q_rw I24 95 (fun _ => 0) → (∀ S29 : QS, S29 = q_sR S26 (q_u2 S26.2.2.2.2 88 7 (some 95)) → (∀ a31 : Nat, ∀ S30 : QS, S30 = q_nS S29 a31 9 16 → (∀ I32 : QI, I32 = q_rw I28 96 (fun _ => 0) → (∀ S33 : QS, S33 = q_sR S30 (q_u2 S30.2.2.2.2 88 8 (some 96)) → (post S33 I32 J)))))))))))))))))))))))))) := h
  refine V_aload_n dX1_init_0 rfl rfl ?_
  refine V_objInit dX1_init_1 ml_RX1_3 ob_in ob_co (Nat.le_of_ble_eq_true rfl) ?_
  refine V_aload_n dX1_init_4 rfl rfl ?_
  refine V_aload_n dX1_init_5 rfl rfl ?_
  refine V_putF dX1_init_6 fl_RX1_9 rfl rfl rfl (by rw [hN]; decide) hK88 rfl (fun _ => rfl) (fun _ => rfl) ?_
  refine V_memS (fun S1 e_S1 => ?_)
  replace h := h S1 e_S1
  have hN9 : S1.2.1 = 89 := by rw [e_S1]; exact hN
  have hc9 : q_cl S1 := by rw [e_S1]; exact q_cl_put hc (by rw [hN]; decide)
  have hE9 : Ex S S1 := by rw [e_S1]; exact hE.tr (Ex.put _ _)
  have hR9 : q_Rk 88 S S1 := by rw [e_S1]; exact hR.put (Or.inl rfl)
  have hK889 : S1.2.2.1 88 = 1 := by rw [e_S1]; exact hK88
  clear hc hE hR hK88  
  have hN := hN9
  have hc := hc9
  have hE := hE9
  have hR := hR9
  have hK88 := hK889
  refine V_aload_n dX1_init_9 rfl rfl ?_
  refine V_bipush (v := 6) dX1_init_10 (by decide) ?_
  refine V_newI (z := 6) dX1_init_12 ac_int (by decide) (by decide) (by decide) (by rw [hN]; decide) hc (q_vbn hN rfl) (q_vbn hN rfl) (by decide) (by decide) (fun a3 => ?_)
  rw [hN]
  refine V_memS (fun S2 e_S2 => ?_)
  refine V_memI (fun I4 e_I4 => ?_)
  replace h := h a3 S2 e_S2 I4 e_I4
  have hM9 := hN
  have hN9 : S2.2.1 = 90 := by rw [e_S2]; show _ + 1 = 90; rw [hN]
  have hc9 : q_cl S2 := by rw [e_S2]; exact q_cl_new hc _ _ _
  have hE9 : Ex S S2 := by rw [e_S2]; exact hE.tr (Ex.new _ (by rw [hN]; decide) _ _ _)
  have hR9 : q_Rk 88 S S2 := by rw [e_S2]; exact hR.new hE.1 _ _ _
  have hK889 : S2.2.2.1 88 = 1 := by rw [e_S2]; exact (if_neg (by rw [hN]; decide)).trans hK88
  clear hc hE hR hK88  
  have hN := hN9
  have hc := hc9
  have hE := hE9
  have hR := hR9
  have hK88 := hK889
  clear hM9
  refine V_putF dX1_init_14 fl_RX1_15 rfl rfl rfl (by rw [hN]; decide) hK88 rfl (fun _ => rfl) (fun _ => rfl) ?_
  refine V_memS (fun S5 e_S5 => ?_)
  replace h := h S5 e_S5
  have hN9 : S5.2.1 = 90 := by rw [e_S5]; exact hN
  have hc9 : q_cl S5 := by rw [e_S5]; exact q_cl_put hc (by rw [hN]; decide)
  have hE9 : Ex S S5 := by rw [e_S5]; exact hE.tr (Ex.put _ _)
  have hR9 : q_Rk 88 S S5 := by rw [e_S5]; exact hR.put (Or.inl rfl)
  have hK889 : S5.2.2.1 88 = 1 := by rw [e_S5]; exact hK88
  clear hc hE hR hK88  
  have hN := hN9
  have hc := hc9
  have hE := hE9
  have hR := hR9
  have hK88 := hK889
  refine V_aload_n dX1_init_17 rfl rfl ?_
  refine V_bipush (v := 6) dX1_init_18 (by decide) ?_
  refine V_newI (z := 6) dX1_init_20 ac_int (by decide) (by decide) (by decide) (by rw [hN]; decide) hc (q_vbn hN rfl) (q_vbn hN rfl) (by decide) (by decide) (fun a7 => ?_)
  rw [hN]
  refine V_memS (fun S6 e_S6 => ?_)
  refine V_memI (fun I8 e_I8 => ?_)
  replace h := h a7 S6 e_S6 I8 e_I8
  have hM9 := hN
  have hN9 : S6.2.1 = 91 := by rw [e_S6]; show _ + 1 = 91; rw [hN]
  have hc9 : q_cl S6 := by rw [e_S6]; exact q_cl_new hc _ _ _
  have hE9 : Ex S S6 := by rw [e_S6]; exact hE.tr (Ex.new _ (by rw [hN]; decide) _ _ _)
  have hR9 : q_Rk 88 S S6 := by rw [e_S6]; exact hR.new hE.1 _ _ _
  have hK889 : S6.2.2.1 88 = 1 := by rw [e_S6]; exact (if_neg (by rw [hN]; decide)).trans hK88
  clear hc hE hR hK88  
  have hN := hN9
  have hc := hc9
  have hE := hE9
  have hR := hR9
  have hK88 := hK889
  clear hM9
  refine V_putF dX1_init_22 fl_RX1_19 rfl rfl rfl (by rw [hN]; decide) hK88 rfl (fun _ => rfl) (fun _ => rfl) ?_
  refine V_memS (fun S9 e_S9 => ?_)
  replace h := h S9 e_S9
  have hN9 : S9.2.1 = 91 := by rw [e_S9]; exact hN
  have hc9 : q_cl S9 := by rw [e_S9]; exact q_cl_put hc (by rw [hN]; decide)
  have hE9 : Ex S S9 := by rw [e_S9]; exact hE.tr (Ex.put _ _)
  have hR9 : q_Rk 88 S S9 := by rw [e_S9]; exact hR.put (Or.inl rfl)
  have hK889 : S9.2.2.1 88 = 1 := by rw [e_S9]; exact hK88
  clear hc hE hR hK88  
  have hN := hN9
  have hc := hc9
  have hE := hE9
  have hR := hR9
  have hK88 := hK889
  refine V_aload_n dX1_init_25 rfl rfl ?_
  refine V_bipush (v := 6) dX1_init_26 (by decide) ?_
  refine V_newI (z := 6) dX1_init_28 ac_int (by decide) (by decide) (by decide) (by rw [hN]; decide) hc (q_vbn hN rfl) (q_vbn hN rfl) (by decide) (by decide) (fun a11 => ?_)
  rw [hN]
  refine V_memS (fun S10 e_S10 => ?_)
  refine V_memI (fun I12 e_I12 => ?_)
  replace h := h a11 S10 e_S10 I12 e_I12
  have hM9 := hN
  have hN9 : S10.2.1 = 92 := by rw [e_S10]; show _ + 1 = 92; rw [hN]
  have hc9 : q_cl S10 := by rw [e_S10]; exact q_cl_new hc _ _ _
  have hE9 : Ex S S10 := by rw [e_S10]; exact hE.tr (Ex.new _ (by rw [hN]; decide) _ _ _)
  have hR9 : q_Rk 88 S S10 := by rw [e_S10]; exact hR.new hE.1 _ _ _
  have hK889 : S10.2.2.1 88 = 1 := by rw [e_S10]; exact (if_neg (by rw [hN]; decide)).trans hK88
  clear hc hE hR hK88  
  have hN := hN9
  have hc := hc9
  have hE := hE9
  have hR := hR9
  have hK88 := hK889
  clear hM9
  refine V_putF dX1_init_30 fl_RX1_22 rfl rfl rfl (by rw [hN]; decide) hK88 rfl (fun _ => rfl) (fun _ => rfl) ?_
  refine V_memS (fun S13 e_S13 => ?_)
  replace h := h S13 e_S13
  have hN9 : S13.2.1 = 92 := by rw [e_S13]; exact hN
  have hc9 : q_cl S13 := by rw [e_S13]; exact q_cl_put hc (by rw [hN]; decide)
  have hE9 : Ex S S13 := by rw [e_S13]; exact hE.tr (Ex.put _ _)
  have hR9 : q_Rk 88 S S13 := by rw [e_S13]; exact hR.put (Or.inl rfl)
  have hK889 : S13.2.2.1 88 = 1 := by rw [e_S13]; exact hK88
  clear hc hE hR hK88  
  have hN := hN9
  have hc := hc9
  have hE := hE9
  have hR := hR9
  have hK88 := hK889
  refine V_aload_n dX1_init_33 rfl rfl ?_
  refine V_bipush (v := 6) dX1_init_34 (by decide) ?_
  refine V_newI (z := 6) dX1_init_36 ac_int (by decide) (by decide) (by decide) (by rw [hN]; decide) hc (q_vbn hN rfl) (q_vbn hN rfl) (by decide) (by decide) (fun a15 => ?_)
  rw [hN]
  refine V_memS (fun S14 e_S14 => ?_)
  refine V_memI (fun I16 e_I16 => ?_)
  replace h := h a15 S14 e_S14 I16 e_I16
  have hM9 := hN
  have hN9 : S14.2.1 = 93 := by rw [e_S14]; show _ + 1 = 93; rw [hN]
  have hc9 : q_cl S14 := by rw [e_S14]; exact q_cl_new hc _ _ _
  have hE9 : Ex S S14 := by rw [e_S14]; exact hE.tr (Ex.new _ (by rw [hN]; decide) _ _ _)
  have hR9 : q_Rk 88 S S14 := by rw [e_S14]; exact hR.new hE.1 _ _ _
  have hK889 : S14.2.2.1 88 = 1 := by rw [e_S14]; exact (if_neg (by rw [hN]; decide)).trans hK88
  clear hc hE hR hK88  
  have hN := hN9
  have hc := hc9
  have hE := hE9
  have hR := hR9
  have hK88 := hK889
  clear hM9
  refine V_putF dX1_init_38 fl_RX1_25 rfl rfl rfl (by rw [hN]; decide) hK88 rfl (fun _ => rfl) (fun _ => rfl) ?_
  refine V_memS (fun S17 e_S17 => ?_)
  replace h := h S17 e_S17
  have hN9 : S17.2.1 = 93 := by rw [e_S17]; exact hN
  have hc9 : q_cl S17 := by rw [e_S17]; exact q_cl_put hc (by rw [hN]; decide)
  have hE9 : Ex S S17 := by rw [e_S17]; exact hE.tr (Ex.put _ _)
  have hR9 : q_Rk 88 S S17 := by rw [e_S17]; exact hR.put (Or.inl rfl)
  have hK889 : S17.2.2.1 88 = 1 := by rw [e_S17]; exact hK88
  clear hc hE hR hK88  
  have hN := hN9
  have hc := hc9
  have hE := hE9
  have hR := hR9
  have hK88 := hK889
  refine V_aload_n dX1_init_41 rfl rfl ?_
  refine V_iconst (v := 4) dX1_init_42 (by decide) ?_
  refine V_newI (z := 4) dX1_init_43 ac_int (by decide) (by decide) (by decide) (by rw [hN]; decide) hc (q_vbn hN rfl) (q_vbn hN rfl) (by decide) (by decide) (fun a19 => ?_)
  rw [hN]
  refine V_memS (fun S18 e_S18 => ?_)
  refine V_memI (fun I20 e_I20 => ?_)
  replace h := h a19 S18 e_S18 I20 e_I20
  have hM9 := hN
  have hN9 : S18.2.1 = 94 := by rw [e_S18]; show _ + 1 = 94; rw [hN]
  have hc9 : q_cl S18 := by rw [e_S18]; exact q_cl_new hc _ _ _
  have hE9 : Ex S S18 := by rw [e_S18]; exact hE.tr (Ex.new _ (by rw [hN]; decide) _ _ _)
  have hR9 : q_Rk 88 S S18 := by rw [e_S18]; exact hR.new hE.1 _ _ _
  have hK889 : S18.2.2.1 88 = 1 := by rw [e_S18]; exact (if_neg (by rw [hN]; decide)).trans hK88
  clear hc hE hR hK88  
  have hN := hN9
  have hc := hc9
  have hE := hE9
  have hR := hR9
  have hK88 := hK889
  clear hM9
  refine V_putF dX1_init_45 fl_RX1_28 rfl rfl rfl (by rw [hN]; decide) hK88 rfl (fun _ => rfl) (fun _ => rfl) ?_
  refine V_memS (fun S21 e_S21 => ?_)
  replace h := h S21 e_S21
  have hN9 : S21.2.1 = 94 := by rw [e_S21]; exact hN
  have hc9 : q_cl S21 := by rw [e_S21]; exact q_cl_put hc (by rw [hN]; decide)
  have hE9 : Ex S S21 := by rw [e_S21]; exact hE.tr (Ex.put _ _)
  have hR9 : q_Rk 88 S S21 := by rw [e_S21]; exact hR.put (Or.inl rfl)
  have hK889 : S21.2.2.1 88 = 1 := by rw [e_S21]; exact hK88
  clear hc hE hR hK88  
  have hN := hN9
  have hc := hc9
  have hE := hE9
  have hR := hR9
  have hK88 := hK889
  refine V_aload_n dX1_init_48 rfl rfl ?_
  refine V_bipush (v := 6) dX1_init_49 (by decide) ?_
  refine V_newI (z := 6) dX1_init_51 ac_int (by decide) (by decide) (by decide) (by rw [hN]; decide) hc (q_vbn hN rfl) (q_vbn hN rfl) (by decide) (by decide) (fun a23 => ?_)
  rw [hN]
  refine V_memS (fun S22 e_S22 => ?_)
  refine V_memI (fun I24 e_I24 => ?_)
  replace h := h a23 S22 e_S22 I24 e_I24
  have hM9 := hN
  have hN9 : S22.2.1 = 95 := by rw [e_S22]; show _ + 1 = 95; rw [hN]
  have hc9 : q_cl S22 := by rw [e_S22]; exact q_cl_new hc _ _ _
  have hE9 : Ex S S22 := by rw [e_S22]; exact hE.tr (Ex.new _ (by rw [hN]; decide) _ _ _)
  have hR9 : q_Rk 88 S S22 := by rw [e_S22]; exact hR.new hE.1 _ _ _
  have hK889 : S22.2.2.1 88 = 1 := by rw [e_S22]; exact (if_neg (by rw [hN]; decide)).trans hK88
  clear hc hE hR hK88  
  have hN := hN9
  have hc := hc9
  have hE := hE9
  have hR := hR9
  have hK88 := hK889
  clear hM9
  refine V_putF dX1_init_53 fl_RX1_31 rfl rfl rfl (by rw [hN]; decide) hK88 rfl (fun _ => rfl) (fun _ => rfl) ?_
  refine V_memS (fun S25 e_S25 => ?_)
  replace h := h S25 e_S25
  have hN9 : S25.2.1 = 95 := by rw [e_S25]; exact hN
  have hc9 : q_cl S25 := by rw [e_S25]; exact q_cl_put hc (by rw [hN]; decide)
  have hE9 : Ex S S25 := by rw [e_S25]; exact hE.tr (Ex.put _ _)
  have hR9 : q_Rk 88 S S25 := by rw [e_S25]; exact hR.put (Or.inl rfl)
  have hK889 : S25.2.2.1 88 = 1 := by rw [e_S25]; exact hK88
  clear hc hE hR hK88  
  have hN := hN9
  have hc := hc9
  have hE := hE9
  have hR := hR9
  have hK88 := hK889
  refine V_aload_n dX1_init_56 rfl rfl ?_
  refine V_bipush (v := 16) dX1_init_57 (by decide) ?_
  refine V_newI (z := 16) dX1_init_59 ac_int (by decide) (by decide) (by decide) (by rw [hN]; decide) hc (q_vbn hN rfl) (q_vbn hN rfl) (by decide) (by decide) (fun a27 => ?_)
  rw [hN]
  refine V_memS (fun S26 e_S26 => ?_)
  refine V_memI (fun I28 e_I28 => ?_)
  replace h := h a27 S26 e_S26 I28 e_I28
  have hM9 := hN
  have hN9 : S26.2.1 = 96 := by rw [e_S26]; show _ + 1 = 96; rw [hN]
  have hc9 : q_cl S26 := by rw [e_S26]; exact q_cl_new hc _ _ _
  have hE9 : Ex S S26 := by rw [e_S26]; exact hE.tr (Ex.new _ (by rw [hN]; decide) _ _ _)
  have hR9 : q_Rk 88 S S26 := by rw [e_S26]; exact hR.new hE.1 _ _ _
  have hK889 : S26.2.2.1 88 = 1 := by rw [e_S26]; exact (if_neg (by rw [hN]; decide)).trans hK88
  clear hc hE hR hK88  
  have hN := hN9
  have hc := hc9
  have hE := hE9
  have hR := hR9
  have hK88 := hK889
  clear hM9
  refine V_putF dX1_init_61 fl_RX1_34 rfl rfl rfl (by rw [hN]; decide) hK88 rfl (fun _ => rfl) (fun _ => rfl) ?_
  refine V_memS (fun S29 e_S29 => ?_)
  replace h := h S29 e_S29
  have hN9 : S29.2.1 = 96 := by rw [e_S29]; exact hN
  have hc9 : q_cl S29 := by rw [e_S29]; exact q_cl_put hc (by rw [hN]; decide)
  have hE9 : Ex S S29 := by rw [e_S29]; exact hE.tr (Ex.put _ _)
  have hR9 : q_Rk 88 S S29 := by rw [e_S29]; exact hR.put (Or.inl rfl)
  have hK889 : S29.2.2.1 88 = 1 := by rw [e_S29]; exact hK88
  clear hc hE hR hK88  
  have hN := hN9
  have hc := hc9
  have hE := hE9
  have hR := hR9
  have hK88 := hK889
  refine V_aload_n dX1_init_64 rfl rfl ?_
  refine V_bipush (v := 16) dX1_init_65 (by decide) ?_
  refine V_newI (z := 16) dX1_init_67 ac_int (by decide) (by decide) (by decide) (by rw [hN]; decide) hc (q_vbn hN rfl) (q_vbn hN rfl) (by decide) (by decide) (fun a31 => ?_)
  rw [hN]
  refine V_memS (fun S30 e_S30 => ?_)
  refine V_memI (fun I32 e_I32 => ?_)
  replace h := h a31 S30 e_S30 I32 e_I32
  have hM9 := hN
  have hN9 : S30.2.1 = 97 := by rw [e_S30]; show _ + 1 = 97; rw [hN]
  have hc9 : q_cl S30 := by rw [e_S30]; exact q_cl_new hc _ _ _
  have hE9 : Ex S S30 := by rw [e_S30]; exact hE.tr (Ex.new _ (by rw [hN]; decide) _ _ _)
  have hR9 : q_Rk 88 S S30 := by rw [e_S30]; exact hR.new hE.1 _ _ _
  have hK889 : S30.2.2.1 88 = 1 := by rw [e_S30]; exact (if_neg (by rw [hN]; decide)).trans hK88
  clear hc hE hR hK88  
  have hN := hN9
  have hc := hc9
  have hE := hE9
  have hR := hR9
  have hK88 := hK889
  clear hM9
  refine V_putF dX1_init_69 fl_RX1_37 rfl rfl rfl (by rw [hN]; decide) hK88 rfl (fun _ => rfl) (fun _ => rfl) ?_
  refine V_memS (fun S33 e_S33 => ?_)
  replace h := h S33 e_S33
  have hN9 : S33.2.1 = 97 := by rw [e_S33]; exact hN
  have hc9 : q_cl S33 := by rw [e_S33]; exact q_cl_put hc (by rw [hN]; decide)
  have hE9 : Ex S S33 := by rw [e_S33]; exact hE.tr (Ex.put _ _)
  have hR9 : q_Rk 88 S S33 := by rw [e_S33]; exact hR.put (Or.inl rfl)
  have hK889 : S33.2.2.1 88 = 1 := by rw [e_S33]; exact hK88
  clear hc hE hR hK88  
  have hN := hN9
  have hc := hc9
  have hE := hE9
  have hR := hR9
  have hK88 := hK889
  exact V_vret dX1_init_72 rfl (by decide) (by decide) ⟨rfl, hE, hc, by rw [hN, hN0], hR, h⟩
def w_X6_init_at97 (S : QS) (I : QI) (J : QJ) (post : QS → QI → QJ → Prop) : Prop := (∀ S1 : QS, S1 = q_sR S (q_u2 S.2.2.2.2 97 0 (some 52)) → (∀ a3 : Nat, ∀ S2 : QS, S2 = q_nS S1 a3 9 4 → (∀ I4 : QI, I4 = q_rw I 98 (fun _ => 0) → (∀ S5 : QS, S5 = q_sR S2 (q_u2 S2.2.2.2.2 97 1 (some 98)) → (∀ a7 : Nat, ∀ S6 : QS, S6 = q_nS S5 a7 9 4 → (∀ I8 : QI, I8 = q_rw I4 99 (fun _ => 0) → (∀ S9 : QS, S9 = q_sR S6 (q_u2 S6.2.2.2.2 97 2 (some 99)) → (∀ a11 : Nat, ∀ S10 : QS, S10 = q_nS S9 a11 9 4 → (∀ I12 : QI, I12 = q_rw I8 100 (fun _ => 0) → (∀ S13 : QS, S13 = q_sR S10 (q_u2 S10.2.2.2.2 97 3 (some 100)) → (∀ a15 : Nat, ∀ S14 : QS, S14 = q_nS S13 a15 9 4 → (∀ I16 : QI, I16 = q_rw I12 101 (fun _ => 0) → (∀ S17 : QS, S17 = q_sR S14 (q_u2 S14.2.2.2.2 97 4 (some 101)) → (post S17 I16 J))))))))))))))
set_option maxRecDepth 100000 in
set_option maxHeartbeats 4000000 in
theorem s_X6_init_at97 {X : QX} {S : QS} {I : QI} {J : QJ} {post : QS → QI → QJ → Prop} (hN : S.2.1 = 98) (hc : q_cl S) (hK97 : S.2.2.1 97 = 6) (h : w_X6_init_at97 S I J post) : CX X mX6_init 1 4 16 [.ref 97, .ref 52] S I J (q_Pk 97 S 4 post) := by
  have hN0 := hN
  have hE : Ex S S := Ex.rf
  have hR : q_Rk 97 S S := q_Rk.rf
  refine CX.of (lo := [(0, .ref 97), (1, .ref 52)]) ok_mX6_init rfl (Nat.le_of_ble_eq_true rfl) rfl ?_
  replace h : (∀ S1 : QS, S1 = q_sR S (q_u2 S.2.2.2.2 97 0 (some 52)) → (∀ a3 : Nat, ∀ S2 : QS, S2 = q_nS S1 a3 9 4 → (∀ I4 : QI, I4 = q_rw I 98 (fun _ => 0) → (∀ S5 : QS, S5 = q_sR S2 (q_u2 S2.2.2.2.2 97 1 (some 98)) → (∀ a7 : Nat, ∀ S6 : QS, S6 = q_nS S5 a7 9 4 → (∀ I8 : QI, I8 = q_rw I4 99 (fun _ => 0) → (∀ S9 : QS, S9 = q_sR S6 (q_u2 S6.2.2.2.2 97 2 (some 99)) → (∀ a11 : Nat, ∀ S10 : QS, S10 = q_nS S9 a11 9 4 → (∀ I12 : QI, I12 = q_rw I8 100 (fun _ => 0) → (∀ S13 : QS, S13 = q_sR S10 (q_u2 S10.2.2.2.2 97 3 (some 100)) → (∀ a15 : Nat, ∀ S14 : QS, S14 = q_nS S13 a15 9 4 → (∀ I16 : QI, I16 = q_rw I12 101 (fun _ => 0) → (∀ S17 : QS, S17 = q_sR S14 (q_u2 S14.2.2.2.2 97 4 (some 101)) → (post S17 I16 J)))))))))))))) := h
  refine V_aload_n dX6_init_0 rfl rfl ?_
  refine V_objInit dX6_init_1 ml_RX6_3 ob_in ob_co (Nat.le_of_ble_eq_true rfl) ?_
  refine V_aload_n dX6_init_4 rfl rfl ?_
  refine V_aload_n dX6_init_5 rfl rfl ?_
  refine V_putF dX6_init_6 fl_RX6_9 rfl rfl rfl (by rw [hN]; decide) hK97 rfl (fun _ => rfl) (fun _ => rfl) ?_
  refine V_memS (fun S1 e_S1 => ?_)
  replace h := h S1 e_S1
  have hN9 : S1.2.1 = 98 := by rw [e_S1]; exact hN
  have hc9 : q_cl S1 := by rw [e_S1]; exact q_cl_put hc (by rw [hN]; decide)
  have hE9 : Ex S S1 := by rw [e_S1]; exact hE.tr (Ex.put _ _)
  have hR9 : q_Rk 97 S S1 := by rw [e_S1]; exact hR.put (Or.inl rfl)
  have hK979 : S1.2.2.1 97 = 6 := by rw [e_S1]; exact hK97
  clear hc hE hR hK97  
  have hN := hN9
  have hc := hc9
  have hE := hE9
  have hR := hR9
  have hK97 := hK979
  refine V_aload_n dX6_init_9 rfl rfl ?_
  refine V_iconst (v := 4) dX6_init_10 (by decide) ?_
  refine V_newI (z := 4) dX6_init_11 ac_int (by decide) (by decide) (by decide) (by rw [hN]; decide) hc (q_vbn hN rfl) (q_vbn hN rfl) (by decide) (by decide) (fun a3 => ?_)
  rw [hN]
  refine V_memS (fun S2 e_S2 => ?_)
  refine V_memI (fun I4 e_I4 => ?_)
  replace h := h a3 S2 e_S2 I4 e_I4
  have hM9 := hN
  have hN9 : S2.2.1 = 99 := by rw [e_S2]; show _ + 1 = 99; rw [hN]
  have hc9 : q_cl S2 := by rw [e_S2]; exact q_cl_new hc _ _ _
  have hE9 : Ex S S2 := by rw [e_S2]; exact hE.tr (Ex.new _ (by rw [hN]; decide) _ _ _)
  have hR9 : q_Rk 97 S S2 := by rw [e_S2]; exact hR.new hE.1 _ _ _
  have hK979 : S2.2.2.1 97 = 6 := by rw [e_S2]; exact (if_neg (by rw [hN]; decide)).trans hK97
  clear hc hE hR hK97  
  have hN := hN9
  have hc := hc9
  have hE := hE9
  have hR := hR9
  have hK97 := hK979
  clear hM9
  refine V_putF dX6_init_13 fl_RX6_15 rfl rfl rfl (by rw [hN]; decide) hK97 rfl (fun _ => rfl) (fun _ => rfl) ?_
  refine V_memS (fun S5 e_S5 => ?_)
  replace h := h S5 e_S5
  have hN9 : S5.2.1 = 99 := by rw [e_S5]; exact hN
  have hc9 : q_cl S5 := by rw [e_S5]; exact q_cl_put hc (by rw [hN]; decide)
  have hE9 : Ex S S5 := by rw [e_S5]; exact hE.tr (Ex.put _ _)
  have hR9 : q_Rk 97 S S5 := by rw [e_S5]; exact hR.put (Or.inl rfl)
  have hK979 : S5.2.2.1 97 = 6 := by rw [e_S5]; exact hK97
  clear hc hE hR hK97  
  have hN := hN9
  have hc := hc9
  have hE := hE9
  have hR := hR9
  have hK97 := hK979
  refine V_aload_n dX6_init_16 rfl rfl ?_
  refine V_iconst (v := 4) dX6_init_17 (by decide) ?_
  refine V_newI (z := 4) dX6_init_18 ac_int (by decide) (by decide) (by decide) (by rw [hN]; decide) hc (q_vbn hN rfl) (q_vbn hN rfl) (by decide) (by decide) (fun a7 => ?_)
  rw [hN]
  refine V_memS (fun S6 e_S6 => ?_)
  refine V_memI (fun I8 e_I8 => ?_)
  replace h := h a7 S6 e_S6 I8 e_I8
  have hM9 := hN
  have hN9 : S6.2.1 = 100 := by rw [e_S6]; show _ + 1 = 100; rw [hN]
  have hc9 : q_cl S6 := by rw [e_S6]; exact q_cl_new hc _ _ _
  have hE9 : Ex S S6 := by rw [e_S6]; exact hE.tr (Ex.new _ (by rw [hN]; decide) _ _ _)
  have hR9 : q_Rk 97 S S6 := by rw [e_S6]; exact hR.new hE.1 _ _ _
  have hK979 : S6.2.2.1 97 = 6 := by rw [e_S6]; exact (if_neg (by rw [hN]; decide)).trans hK97
  clear hc hE hR hK97  
  have hN := hN9
  have hc := hc9
  have hE := hE9
  have hR := hR9
  have hK97 := hK979
  clear hM9
  refine V_putF dX6_init_20 fl_RX6_19 rfl rfl rfl (by rw [hN]; decide) hK97 rfl (fun _ => rfl) (fun _ => rfl) ?_
  refine V_memS (fun S9 e_S9 => ?_)
  replace h := h S9 e_S9
  have hN9 : S9.2.1 = 100 := by rw [e_S9]; exact hN
  have hc9 : q_cl S9 := by rw [e_S9]; exact q_cl_put hc (by rw [hN]; decide)
  have hE9 : Ex S S9 := by rw [e_S9]; exact hE.tr (Ex.put _ _)
  have hR9 : q_Rk 97 S S9 := by rw [e_S9]; exact hR.put (Or.inl rfl)
  have hK979 : S9.2.2.1 97 = 6 := by rw [e_S9]; exact hK97
  clear hc hE hR hK97  
  have hN := hN9
  have hc := hc9
  have hE := hE9
  have hR := hR9
  have hK97 := hK979
  refine V_aload_n dX6_init_23 rfl rfl ?_
  refine V_iconst (v := 4) dX6_init_24 (by decide) ?_
  refine V_newI (z := 4) dX6_init_25 ac_int (by decide) (by decide) (by decide) (by rw [hN]; decide) hc (q_vbn hN rfl) (q_vbn hN rfl) (by decide) (by decide) (fun a11 => ?_)
  rw [hN]
  refine V_memS (fun S10 e_S10 => ?_)
  refine V_memI (fun I12 e_I12 => ?_)
  replace h := h a11 S10 e_S10 I12 e_I12
  have hM9 := hN
  have hN9 : S10.2.1 = 101 := by rw [e_S10]; show _ + 1 = 101; rw [hN]
  have hc9 : q_cl S10 := by rw [e_S10]; exact q_cl_new hc _ _ _
  have hE9 : Ex S S10 := by rw [e_S10]; exact hE.tr (Ex.new _ (by rw [hN]; decide) _ _ _)
  have hR9 : q_Rk 97 S S10 := by rw [e_S10]; exact hR.new hE.1 _ _ _
  have hK979 : S10.2.2.1 97 = 6 := by rw [e_S10]; exact (if_neg (by rw [hN]; decide)).trans hK97
  clear hc hE hR hK97  
  have hN := hN9
  have hc := hc9
  have hE := hE9
  have hR := hR9
  have hK97 := hK979
  clear hM9
  refine V_putF dX6_init_27 fl_RX6_22 rfl rfl rfl (by rw [hN]; decide) hK97 rfl (fun _ => rfl) (fun _ => rfl) ?_
  refine V_memS (fun S13 e_S13 => ?_)
  replace h := h S13 e_S13
  have hN9 : S13.2.1 = 101 := by rw [e_S13]; exact hN
  have hc9 : q_cl S13 := by rw [e_S13]; exact q_cl_put hc (by rw [hN]; decide)
  have hE9 : Ex S S13 := by rw [e_S13]; exact hE.tr (Ex.put _ _)
  have hR9 : q_Rk 97 S S13 := by rw [e_S13]; exact hR.put (Or.inl rfl)
  have hK979 : S13.2.2.1 97 = 6 := by rw [e_S13]; exact hK97
  clear hc hE hR hK97  
  have hN := hN9
  have hc := hc9
  have hE := hE9
  have hR := hR9
  have hK97 := hK979
  refine V_aload_n dX6_init_30 rfl rfl ?_
  refine V_iconst (v := 4) dX6_init_31 (by decide) ?_
  refine V_newI (z := 4) dX6_init_32 ac_int (by decide) (by decide) (by decide) (by rw [hN]; decide) hc (q_vbn hN rfl) (q_vbn hN rfl) (by decide) (by decide) (fun a15 => ?_)
  rw [hN]
  refine V_memS (fun S14 e_S14 => ?_)
  refine V_memI (fun I16 e_I16 => ?_)
  replace h := h a15 S14 e_S14 I16 e_I16
  have hM9 := hN
  have hN9 : S14.2.1 = 102 := by rw [e_S14]; show _ + 1 = 102; rw [hN]
  have hc9 : q_cl S14 := by rw [e_S14]; exact q_cl_new hc _ _ _
  have hE9 : Ex S S14 := by rw [e_S14]; exact hE.tr (Ex.new _ (by rw [hN]; decide) _ _ _)
  have hR9 : q_Rk 97 S S14 := by rw [e_S14]; exact hR.new hE.1 _ _ _
  have hK979 : S14.2.2.1 97 = 6 := by rw [e_S14]; exact (if_neg (by rw [hN]; decide)).trans hK97
  clear hc hE hR hK97  
  have hN := hN9
  have hc := hc9
  have hE := hE9
  have hR := hR9
  have hK97 := hK979
  clear hM9
  refine V_putF dX6_init_34 fl_RX6_25 rfl rfl rfl (by rw [hN]; decide) hK97 rfl (fun _ => rfl) (fun _ => rfl) ?_
  refine V_memS (fun S17 e_S17 => ?_)
  replace h := h S17 e_S17
  have hN9 : S17.2.1 = 102 := by rw [e_S17]; exact hN
  have hc9 : q_cl S17 := by rw [e_S17]; exact q_cl_put hc (by rw [hN]; decide)
  have hE9 : Ex S S17 := by rw [e_S17]; exact hE.tr (Ex.put _ _)
  have hR9 : q_Rk 97 S S17 := by rw [e_S17]; exact hR.put (Or.inl rfl)
  have hK979 : S17.2.2.1 97 = 6 := by rw [e_S17]; exact hK97
  clear hc hE hR hK97  
  have hN := hN9
  have hc := hc9
  have hE := hE9
  have hR := hR9
  have hK97 := hK979
  exact V_vret dX6_init_37 rfl (by decide) (by decide) ⟨rfl, hE, hc, by rw [hN, hN0], hR, h⟩
def w_X7_init_at51 (S : QS) (I : QI) (J : QJ) (post : QS → QI → QJ → Prop) : Prop := (∀ a2 : Nat, ∀ S1 : QS, S1 = q_nS S a2 4 0 → (∀ I3 : QI, I3 = q_rw I 52 (fun _ => 0) → (w_X4_init_at52 S1 I3 J (fun S4 I5 J6 => (∀ S7 : QS, S7 = q_sR S4 (q_u2 S4.2.2.2.2 51 0 (some 52)) → (∀ a9 : Nat, ∀ S8 : QS, S8 = q_nS S7 a9 2 0 → (∀ I10 : QI, I10 = q_rw I5 66 (fun _ => 0) → (w_X2_init_at66 S8 I10 J6 (fun S11 I12 J13 => (∀ S14 : QS, S14 = q_sR S11 (q_u2 S11.2.2.2.2 51 1 (some 66)) → (∀ a16 : Nat, ∀ S15 : QS, S15 = q_nS S14 a16 0 0 → (∀ I17 : QI, I17 = q_rw I12 74 (fun _ => 0) → (w_X0_init_at74 S15 I17 J13 (fun S18 I19 J20 => (∀ S21 : QS, S21 = q_sR S18 (q_u2 S18.2.2.2.2 51 2 (some 74)) → (∀ a23 : Nat, ∀ S22 : QS, S22 = q_nS S21 a23 3 0 → (∀ I24 : QI, I24 = q_rw I19 81 (fun _ => 0) → (w_X3_init_at81 S22 I24 J20 (fun S25 I26 J27 => (∀ S28 : QS, S28 = q_sR S25 (q_u2 S25.2.2.2.2 51 3 (some 81)) → (∀ a30 : Nat, ∀ S29 : QS, S29 = q_nS S28 a30 1 0 → (∀ I31 : QI, I31 = q_rw I26 88 (fun _ => 0) → (w_X1_init_at88 S29 I31 J27 (fun S32 I33 J34 => (∀ S35 : QS, S35 = q_sR S32 (q_u2 S32.2.2.2.2 51 4 (some 88)) → (∀ a37 : Nat, ∀ S36 : QS, S36 = q_nS S35 a37 6 0 → (∀ I38 : QI, I38 = q_rw I33 97 (fun _ => 0) → (w_X6_init_at97 S36 I38 J34 (fun S39 I40 J41 => (∀ S42 : QS, S42 = q_sR S39 (q_u2 S39.2.2.2.2 51 5 (some 97)) → (∀ I43 : QI, I43 = q_u2 I40 51 6 100000 → (post S42 I43 J41))))))))))))))))))))))))))))))))
set_option maxRecDepth 100000 in
set_option maxHeartbeats 4000000 in
theorem s_X7_init_at51 {X : QX} {S : QS} {I : QI} {J : QJ} {post : QS → QI → QJ → Prop} (hN : S.2.1 = 52) (hc : q_cl S) (hK51 : S.2.2.1 51 = 7) (h : w_X7_init_at51 S I J post) : CX X mX7_init 3 50 37107 [.ref 51] S I J (q_Pk 51 S 50 post) := by
  have hN0 := hN
  have hE : Ex S S := Ex.rf
  have hR : q_Rk 51 S S := q_Rk.rf
  refine CX.of (lo := [(0, .ref 51)]) ok_mX7_init rfl (Nat.le_of_ble_eq_true rfl) rfl ?_
  replace h : (∀ a2 : Nat, ∀ S1 : QS, S1 = q_nS S a2 4 0 → (∀ I3 : QI, I3 = q_rw I 52 (fun _ => 0) → (w_X4_init_at52 S1 I3 J (fun S4 I5 J6 => (∀ S7 : QS, S7 = q_sR S4 (q_u2 S4.2.2.2.2 51 0 (some 52)) → (∀ a9 : Nat, ∀ S8 : QS, S8 = q_nS S7 a9 2 0 → (∀ I10 : QI, I10 = q_rw I5 66 (fun _ => 0) → (w_X2_init_at66 S8 I10 J6 (fun S11 I12 J13 => (∀ S14 : QS, S14 = q_sR S11 (q_u2 S11.2.2.2.2 51 1 (some 66)) → (∀ a16 : Nat, ∀ S15 : QS, S15 = q_nS S14 a16 0 0 → (∀ I17 : QI, I17 = q_rw I12 74 (fun _ => 0) → (w_X0_init_at74 S15 I17 J13 (fun S18 I19 J20 => (∀ S21 : QS, S21 = q_sR S18 (q_u2 S18.2.2.2.2 51 2 (some 74)) → (∀ a23 : Nat, ∀ S22 : QS, S22 = q_nS S21 a23 3 0 → (∀ I24 : QI, I24 = q_rw I19 81 (fun _ => 0) → (w_X3_init_at81 S22 I24 J20 (fun S25 I26 J27 => (∀ S28 : QS, S28 = q_sR S25 (q_u2 S25.2.2.2.2 51 3 (some 81)) → (∀ a30 : Nat, ∀ S29 : QS, S29 = q_nS S28 a30 1 0 → (∀ I31 : QI, I31 = q_rw I26 88 (fun _ => 0) → (w_X1_init_at88 S29 I31 J27 (fun S32 I33 J34 => (∀ S35 : QS, S35 = q_sR S32 (q_u2 S32.2.2.2.2 51 4 (some 88)) → (∀ a37 : Nat, ∀ S36 : QS, S36 = q_nS S35 a37 6 0 → (∀ I38 : QI, I38 = q_rw I33 97 (fun _ => 0) → (w_X6_init_at97 S36 I38 J34 (fun S39 I40 J41 => (∀ S42 : QS, S42 = q_sR S39 (q_u2 S39.2.2.2.2 51 5 (some 97)) → (∀ I43 : QI, I43 = q_u2 I40 51 6 100000 → (post S42 I43 J41)))))))))))))))))))))))))))))))) := h
  refine V_aload_n dX7_init_0 rfl rfl ?_
  refine V_objInit dX7_init_1 ml_RX7_1 ob_in ob_co (Nat.le_of_ble_eq_true rfl) ?_
  refine V_aload_n dX7_init_4 rfl rfl ?_
  refine V_new (ci := 4) dX7_init_5 (by decide) cl_RX7_7 is_RX4 ii_RX4 (by rw [hN]; decide) hc (q_vbn hN rfl) (q_vbn hN rfl) (by decide) (by decide) (fun a2 => ?_)
  rw [hN]
  refine V_memS (fun S1 e_S1 => ?_)
  refine V_memI (fun I3 e_I3 => ?_)
  replace h := h a2 S1 e_S1 I3 e_I3
  have hM9 := hN
  have hN9 : S1.2.1 = 53 := by rw [e_S1]; show _ + 1 = 53; rw [hN]
  have hc9 : q_cl S1 := by rw [e_S1]; exact q_cl_new hc _ _ _
  have hE9 : Ex S S1 := by rw [e_S1]; exact hE.tr (Ex.new _ (by rw [hN]; decide) _ _ _)
  have hR9 : q_Rk 51 S S1 := by rw [e_S1]; exact hR.new hE.1 _ _ _
  have hK519 : S1.2.2.1 51 = 7 := by rw [e_S1]; exact (if_neg (by rw [hN]; decide)).trans hK51
  clear hc hE hR hK51  
  have hN := hN9
  have hc := hc9
  have hE := hE9
  have hR := hR9
  have hK51 := hK519
  have hK52 : S1.2.2.1 52 = 4 := by rw [e_S1]; exact if_pos hM9.symm
  clear hM9
  refine V_dup dX7_init_8 rfl ?_
  refine V_callIk (st := [.ref 52, .ref 51]) [] dX7_init_9 ok_mX4_init rfl ml_RX7_9 in_mX4_init rfl rfl (Nat.le_of_ble_eq_true rfl) (by decide) (by decide) (by decide) (q_vbn hN rfl) (q_vbn hN rfl) (s_X4_init_at52 hN hc hK52 h) (fun S4 I5 J6 hE8 hc8 hN8 hR8 h => ?_)
  have hN9 : S4.2.1 = 66 := by rw [hN8, hN]
  have hE9 := hE.tr hE8
  have hR9 := hR.call hE hR8 (by rw [hN0]; decide)
  have hK519 : S4.2.2.1 51 = 7 := (hE8.2.1 51 (by rw [hN]; decide)).2.1.trans hK51
  have hK529 : S4.2.2.1 52 = 4 := (hE8.2.1 52 (by rw [hN]; decide)).2.1.trans hK52
  clear hc hE hR hK51 hK52  
  have hN := hN9
  have hc := hc8
  have hE := hE9
  have hR := hR9
  have hK51 := hK519
  have hK52 := hK529
  refine V_putF dX7_init_12 fl_RX7_10 rfl rfl rfl (by rw [hN]; decide) hK51 rfl (fun _ => rfl) (fun _ => rfl) ?_
  refine V_memS (fun S7 e_S7 => ?_)
  replace h := h S7 e_S7
  have hN9 : S7.2.1 = 66 := by rw [e_S7]; exact hN
  have hc9 : q_cl S7 := by rw [e_S7]; exact q_cl_put hc (by rw [hN]; decide)
  have hE9 : Ex S S7 := by rw [e_S7]; exact hE.tr (Ex.put _ _)
  have hR9 : q_Rk 51 S S7 := by rw [e_S7]; exact hR.put (Or.inl rfl)
  have hK519 : S7.2.2.1 51 = 7 := by rw [e_S7]; exact hK51
  have hK529 : S7.2.2.1 52 = 4 := by rw [e_S7]; exact hK52
  clear hc hE hR hK51 hK52  
  have hN := hN9
  have hc := hc9
  have hE := hE9
  have hR := hR9
  have hK51 := hK519
  have hK52 := hK529
  have hR51_0 : S7.2.2.2.2 51 0 = some 52 := by rw [e_S7]; exact q_u2_s S4.2.2.2.2 51 0 (some 52)
  refine V_aload_n dX7_init_15 rfl rfl ?_
  refine V_new (ci := 2) dX7_init_16 (by decide) cl_RX7_16 is_RX2 ii_RX2 (by rw [hN]; decide) hc (q_vbn hN rfl) (q_vbn hN rfl) (by decide) (by decide) (fun a9 => ?_)
  rw [hN]
  refine V_memS (fun S8 e_S8 => ?_)
  refine V_memI (fun I10 e_I10 => ?_)
  replace h := h a9 S8 e_S8 I10 e_I10
  have hM9 := hN
  have hN9 : S8.2.1 = 67 := by rw [e_S8]; show _ + 1 = 67; rw [hN]
  have hc9 : q_cl S8 := by rw [e_S8]; exact q_cl_new hc _ _ _
  have hE9 : Ex S S8 := by rw [e_S8]; exact hE.tr (Ex.new _ (by rw [hN]; decide) _ _ _)
  have hR9 : q_Rk 51 S S8 := by rw [e_S8]; exact hR.new hE.1 _ _ _
  have hK519 : S8.2.2.1 51 = 7 := by rw [e_S8]; exact (if_neg (by rw [hN]; decide)).trans hK51
  have hK529 : S8.2.2.1 52 = 4 := by rw [e_S8]; exact (if_neg (by rw [hN]; decide)).trans hK52
  have hR51_09 : S8.2.2.2.2 51 0 = some 52 := by rw [e_S8]; exact (congrFun (if_neg (by rw [hN]; decide)) _).trans hR51_0
  clear hc hE hR hK51 hK52  hR51_0
  have hN := hN9
  have hc := hc9
  have hE := hE9
  have hR := hR9
  have hK51 := hK519
  have hK52 := hK529
  have hR51_0 := hR51_09
  have hK66 : S8.2.2.1 66 = 2 := by rw [e_S8]; exact if_pos hM9.symm
  clear hM9
  refine V_dup dX7_init_19 rfl ?_
  refine V_aload_n dX7_init_20 rfl rfl ?_
  refine V_getr dX7_init_21 fl_RX7_10 (by rw [hN]; decide) hK51 rfl hR51_0 ?_
  refine V_callIk (st := [.ref 66, .ref 51]) [.ref 52] dX7_init_24 ok_mX2_init rfl ml_RX7_18 in_mX2_init rfl rfl (Nat.le_of_ble_eq_true rfl) (by decide) (by decide) (by decide) (q_vbn hN rfl) (q_vbn hN rfl) (s_X2_init_at66 hN hc hK66 h) (fun S11 I12 J13 hE8 hc8 hN8 hR8 h => ?_)
  have hN9 : S11.2.1 = 74 := by rw [hN8, hN]
  have hE9 := hE.tr hE8
  have hR9 := hR.call hE hR8 (by rw [hN0]; decide)
  have hK519 : S11.2.2.1 51 = 7 := (hE8.2.1 51 (by rw [hN]; decide)).2.1.trans hK51
  have hK529 : S11.2.2.1 52 = 4 := (hE8.2.1 52 (by rw [hN]; decide)).2.1.trans hK52
  have hR51_09 : S11.2.2.2.2 51 0 = some 52 := (congrFun (hR8 51 (by rw [hN]; decide) (by decide)) _).trans hR51_0
  have hK669 : S11.2.2.1 66 = 2 := (hE8.2.1 66 (by rw [hN]; decide)).2.1.trans hK66
  clear hc hE hR hK51 hK52 hK66  hR51_0
  have hN := hN9
  have hc := hc8
  have hE := hE9
  have hR := hR9
  have hK51 := hK519
  have hK52 := hK529
  have hR51_0 := hR51_09
  have hK66 := hK669
  refine V_putF dX7_init_27 fl_RX7_21 rfl rfl rfl (by rw [hN]; decide) hK51 rfl (fun _ => rfl) (fun _ => rfl) ?_
  refine V_memS (fun S14 e_S14 => ?_)
  replace h := h S14 e_S14
  have hN9 : S14.2.1 = 74 := by rw [e_S14]; exact hN
  have hc9 : q_cl S14 := by rw [e_S14]; exact q_cl_put hc (by rw [hN]; decide)
  have hE9 : Ex S S14 := by rw [e_S14]; exact hE.tr (Ex.put _ _)
  have hR9 : q_Rk 51 S S14 := by rw [e_S14]; exact hR.put (Or.inl rfl)
  have hK519 : S14.2.2.1 51 = 7 := by rw [e_S14]; exact hK51
  have hK529 : S14.2.2.1 52 = 4 := by rw [e_S14]; exact hK52
  have hR51_09 : S14.2.2.2.2 51 0 = some 52 := by rw [e_S14]; exact (if_neg (t := some 66) (show ¬ ((51 : Nat) = 51 ∧ (0 : Nat) = 1) by decide)).trans hR51_0
  have hK669 : S14.2.2.1 66 = 2 := by rw [e_S14]; exact hK66
  clear hc hE hR hK51 hK52 hK66  hR51_0
  have hN := hN9
  have hc := hc9
  have hE := hE9
  have hR := hR9
  have hK51 := hK519
  have hK52 := hK529
  have hR51_0 := hR51_09
  have hK66 := hK669
  have hR51_1 : S14.2.2.2.2 51 1 = some 66 := by rw [e_S14]; exact q_u2_s S11.2.2.2.2 51 1 (some 66)
  refine V_aload_n dX7_init_30 rfl rfl ?_
  refine V_new (ci := 0) dX7_init_31 (by decide) cl_RX7_25 is_RX0 ii_RX0 (by rw [hN]; decide) hc (q_vbn hN rfl) (q_vbn hN rfl) (by decide) (by decide) (fun a16 => ?_)
  rw [hN]
  refine V_memS (fun S15 e_S15 => ?_)
  refine V_memI (fun I17 e_I17 => ?_)
  replace h := h a16 S15 e_S15 I17 e_I17
  have hM9 := hN
  have hN9 : S15.2.1 = 75 := by rw [e_S15]; show _ + 1 = 75; rw [hN]
  have hc9 : q_cl S15 := by rw [e_S15]; exact q_cl_new hc _ _ _
  have hE9 : Ex S S15 := by rw [e_S15]; exact hE.tr (Ex.new _ (by rw [hN]; decide) _ _ _)
  have hR9 : q_Rk 51 S S15 := by rw [e_S15]; exact hR.new hE.1 _ _ _
  have hK519 : S15.2.2.1 51 = 7 := by rw [e_S15]; exact (if_neg (by rw [hN]; decide)).trans hK51
  have hK529 : S15.2.2.1 52 = 4 := by rw [e_S15]; exact (if_neg (by rw [hN]; decide)).trans hK52
  have hR51_09 : S15.2.2.2.2 51 0 = some 52 := by rw [e_S15]; exact (congrFun (if_neg (by rw [hN]; decide)) _).trans hR51_0
  have hK669 : S15.2.2.1 66 = 2 := by rw [e_S15]; exact (if_neg (by rw [hN]; decide)).trans hK66
  have hR51_19 : S15.2.2.2.2 51 1 = some 66 := by rw [e_S15]; exact (congrFun (if_neg (by rw [hN]; decide)) _).trans hR51_1
  clear hc hE hR hK51 hK52 hK66  hR51_0 hR51_1
  have hN := hN9
  have hc := hc9
  have hE := hE9
  have hR := hR9
  have hK51 := hK519
  have hK52 := hK529
  have hR51_0 := hR51_09
  have hK66 := hK669
  have hR51_1 := hR51_19
  have hK74 : S15.2.2.1 74 = 0 := by rw [e_S15]; exact if_pos hM9.symm
  clear hM9
  refine V_dup dX7_init_34 rfl ?_
  refine V_aload_n dX7_init_35 rfl rfl ?_
  refine V_getr dX7_init_36 fl_RX7_10 (by rw [hN]; decide) hK51 rfl hR51_0 ?_
  refine V_aload_n dX7_init_39 rfl rfl ?_
  refine V_getr dX7_init_40 fl_RX7_21 (by rw [hN]; decide) hK51 rfl hR51_1 ?_
  refine V_callIk (st := [.ref 74, .ref 51]) [.ref 52, .ref 66] dX7_init_43 ok_mX0_init rfl ml_RX7_27 in_mX0_init rfl rfl (Nat.le_of_ble_eq_true rfl) (by decide) (by decide) (by decide) (q_vbn hN rfl) (q_vbn hN rfl) (s_X0_init_at74 hN hc hK74 h) (fun S18 I19 J20 hE8 hc8 hN8 hR8 h => ?_)
  have hN9 : S18.2.1 = 81 := by rw [hN8, hN]
  have hE9 := hE.tr hE8
  have hR9 := hR.call hE hR8 (by rw [hN0]; decide)
  have hK519 : S18.2.2.1 51 = 7 := (hE8.2.1 51 (by rw [hN]; decide)).2.1.trans hK51
  have hK529 : S18.2.2.1 52 = 4 := (hE8.2.1 52 (by rw [hN]; decide)).2.1.trans hK52
  have hR51_09 : S18.2.2.2.2 51 0 = some 52 := (congrFun (hR8 51 (by rw [hN]; decide) (by decide)) _).trans hR51_0
  have hK669 : S18.2.2.1 66 = 2 := (hE8.2.1 66 (by rw [hN]; decide)).2.1.trans hK66
  have hR51_19 : S18.2.2.2.2 51 1 = some 66 := (congrFun (hR8 51 (by rw [hN]; decide) (by decide)) _).trans hR51_1
  have hK749 : S18.2.2.1 74 = 0 := (hE8.2.1 74 (by rw [hN]; decide)).2.1.trans hK74
  clear hc hE hR hK51 hK52 hK66 hK74  hR51_0 hR51_1
  have hN := hN9
  have hc := hc8
  have hE := hE9
  have hR := hR9
  have hK51 := hK519
  have hK52 := hK529
  have hR51_0 := hR51_09
  have hK66 := hK669
  have hR51_1 := hR51_19
  have hK74 := hK749
  refine V_putF dX7_init_46 fl_RX7_30 rfl rfl rfl (by rw [hN]; decide) hK51 rfl (fun _ => rfl) (fun _ => rfl) ?_
  refine V_memS (fun S21 e_S21 => ?_)
  replace h := h S21 e_S21
  have hN9 : S21.2.1 = 81 := by rw [e_S21]; exact hN
  have hc9 : q_cl S21 := by rw [e_S21]; exact q_cl_put hc (by rw [hN]; decide)
  have hE9 : Ex S S21 := by rw [e_S21]; exact hE.tr (Ex.put _ _)
  have hR9 : q_Rk 51 S S21 := by rw [e_S21]; exact hR.put (Or.inl rfl)
  have hK519 : S21.2.2.1 51 = 7 := by rw [e_S21]; exact hK51
  have hK529 : S21.2.2.1 52 = 4 := by rw [e_S21]; exact hK52
  have hR51_09 : S21.2.2.2.2 51 0 = some 52 := by rw [e_S21]; exact (if_neg (t := some 74) (show ¬ ((51 : Nat) = 51 ∧ (0 : Nat) = 2) by decide)).trans hR51_0
  have hK669 : S21.2.2.1 66 = 2 := by rw [e_S21]; exact hK66
  have hR51_19 : S21.2.2.2.2 51 1 = some 66 := by rw [e_S21]; exact (if_neg (t := some 74) (show ¬ ((51 : Nat) = 51 ∧ (1 : Nat) = 2) by decide)).trans hR51_1
  have hK749 : S21.2.2.1 74 = 0 := by rw [e_S21]; exact hK74
  clear hc hE hR hK51 hK52 hK66 hK74  hR51_0 hR51_1
  have hN := hN9
  have hc := hc9
  have hE := hE9
  have hR := hR9
  have hK51 := hK519
  have hK52 := hK529
  have hR51_0 := hR51_09
  have hK66 := hK669
  have hR51_1 := hR51_19
  have hK74 := hK749
  have hR51_2 : S21.2.2.2.2 51 2 = some 74 := by rw [e_S21]; exact q_u2_s S18.2.2.2.2 51 2 (some 74)
  refine V_aload_n dX7_init_49 rfl rfl ?_
  refine V_new (ci := 3) dX7_init_50 (by decide) cl_RX7_34 is_RX3 ii_RX3 (by rw [hN]; decide) hc (q_vbn hN rfl) (q_vbn hN rfl) (by decide) (by decide) (fun a23 => ?_)
  rw [hN]
  refine V_memS (fun S22 e_S22 => ?_)
  refine V_memI (fun I24 e_I24 => ?_)
  replace h := h a23 S22 e_S22 I24 e_I24
  have hM9 := hN
  have hN9 : S22.2.1 = 82 := by rw [e_S22]; show _ + 1 = 82; rw [hN]
  have hc9 : q_cl S22 := by rw [e_S22]; exact q_cl_new hc _ _ _
  have hE9 : Ex S S22 := by rw [e_S22]; exact hE.tr (Ex.new _ (by rw [hN]; decide) _ _ _)
  have hR9 : q_Rk 51 S S22 := by rw [e_S22]; exact hR.new hE.1 _ _ _
  have hK519 : S22.2.2.1 51 = 7 := by rw [e_S22]; exact (if_neg (by rw [hN]; decide)).trans hK51
  have hK529 : S22.2.2.1 52 = 4 := by rw [e_S22]; exact (if_neg (by rw [hN]; decide)).trans hK52
  have hR51_09 : S22.2.2.2.2 51 0 = some 52 := by rw [e_S22]; exact (congrFun (if_neg (by rw [hN]; decide)) _).trans hR51_0
  have hK669 : S22.2.2.1 66 = 2 := by rw [e_S22]; exact (if_neg (by rw [hN]; decide)).trans hK66
  have hR51_19 : S22.2.2.2.2 51 1 = some 66 := by rw [e_S22]; exact (congrFun (if_neg (by rw [hN]; decide)) _).trans hR51_1
  have hK749 : S22.2.2.1 74 = 0 := by rw [e_S22]; exact (if_neg (by rw [hN]; decide)).trans hK74
  have hR51_29 : S22.2.2.2.2 51 2 = some 74 := by rw [e_S22]; exact (congrFun (if_neg (by rw [hN]; decide)) _).trans hR51_2
  clear hc hE hR hK51 hK52 hK66 hK74  hR51_0 hR51_1 hR51_2
  have hN := hN9
  have hc := hc9
  have hE := hE9
  have hR := hR9
  have hK51 := hK519
  have hK52 := hK529
  have hR51_0 := hR51_09
  have hK66 := hK669
  have hR51_1 := hR51_19
  have hK74 := hK749
  have hR51_2 := hR51_29
  have hK81 : S22.2.2.1 81 = 3 := by rw [e_S22]; exact if_pos hM9.symm
  clear hM9
  refine V_dup dX7_init_53 rfl ?_
  refine V_aload_n dX7_init_54 rfl rfl ?_
  refine V_getr dX7_init_55 fl_RX7_21 (by rw [hN]; decide) hK51 rfl hR51_1 ?_
  refine V_callIk (st := [.ref 81, .ref 51]) [.ref 66] dX7_init_58 ok_mX3_init rfl ml_RX7_36 in_mX3_init rfl rfl (Nat.le_of_ble_eq_true rfl) (by decide) (by decide) (by decide) (q_vbn hN rfl) (q_vbn hN rfl) (s_X3_init_at81 hN hc hK81 h) (fun S25 I26 J27 hE8 hc8 hN8 hR8 h => ?_)
  have hN9 : S25.2.1 = 88 := by rw [hN8, hN]
  have hE9 := hE.tr hE8
  have hR9 := hR.call hE hR8 (by rw [hN0]; decide)
  have hK519 : S25.2.2.1 51 = 7 := (hE8.2.1 51 (by rw [hN]; decide)).2.1.trans hK51
  have hK529 : S25.2.2.1 52 = 4 := (hE8.2.1 52 (by rw [hN]; decide)).2.1.trans hK52
  have hR51_09 : S25.2.2.2.2 51 0 = some 52 := (congrFun (hR8 51 (by rw [hN]; decide) (by decide)) _).trans hR51_0
  have hK669 : S25.2.2.1 66 = 2 := (hE8.2.1 66 (by rw [hN]; decide)).2.1.trans hK66
  have hR51_19 : S25.2.2.2.2 51 1 = some 66 := (congrFun (hR8 51 (by rw [hN]; decide) (by decide)) _).trans hR51_1
  have hK749 : S25.2.2.1 74 = 0 := (hE8.2.1 74 (by rw [hN]; decide)).2.1.trans hK74
  have hR51_29 : S25.2.2.2.2 51 2 = some 74 := (congrFun (hR8 51 (by rw [hN]; decide) (by decide)) _).trans hR51_2
  have hK819 : S25.2.2.1 81 = 3 := (hE8.2.1 81 (by rw [hN]; decide)).2.1.trans hK81
  clear hc hE hR hK51 hK52 hK66 hK74 hK81  hR51_0 hR51_1 hR51_2
  have hN := hN9
  have hc := hc8
  have hE := hE9
  have hR := hR9
  have hK51 := hK519
  have hK52 := hK529
  have hR51_0 := hR51_09
  have hK66 := hK669
  have hR51_1 := hR51_19
  have hK74 := hK749
  have hR51_2 := hR51_29
  have hK81 := hK819
  refine V_putF dX7_init_61 fl_RX7_39 rfl rfl rfl (by rw [hN]; decide) hK51 rfl (fun _ => rfl) (fun _ => rfl) ?_
  refine V_memS (fun S28 e_S28 => ?_)
  replace h := h S28 e_S28
  have hN9 : S28.2.1 = 88 := by rw [e_S28]; exact hN
  have hc9 : q_cl S28 := by rw [e_S28]; exact q_cl_put hc (by rw [hN]; decide)
  have hE9 : Ex S S28 := by rw [e_S28]; exact hE.tr (Ex.put _ _)
  have hR9 : q_Rk 51 S S28 := by rw [e_S28]; exact hR.put (Or.inl rfl)
  have hK519 : S28.2.2.1 51 = 7 := by rw [e_S28]; exact hK51
  have hK529 : S28.2.2.1 52 = 4 := by rw [e_S28]; exact hK52
  have hR51_09 : S28.2.2.2.2 51 0 = some 52 := by rw [e_S28]; exact (if_neg (t := some 81) (show ¬ ((51 : Nat) = 51 ∧ (0 : Nat) = 3) by decide)).trans hR51_0
  have hK669 : S28.2.2.1 66 = 2 := by rw [e_S28]; exact hK66
  have hR51_19 : S28.2.2.2.2 51 1 = some 66 := by rw [e_S28]; exact (if_neg (t := some 81) (show ¬ ((51 : Nat) = 51 ∧ (1 : Nat) = 3) by decide)).trans hR51_1
  have hK749 : S28.2.2.1 74 = 0 := by rw [e_S28]; exact hK74
  have hR51_29 : S28.2.2.2.2 51 2 = some 74 := by rw [e_S28]; exact (if_neg (t := some 81) (show ¬ ((51 : Nat) = 51 ∧ (2 : Nat) = 3) by decide)).trans hR51_2
  have hK819 : S28.2.2.1 81 = 3 := by rw [e_S28]; exact hK81
  clear hc hE hR hK51 hK52 hK66 hK74 hK81  hR51_0 hR51_1 hR51_2
  have hN := hN9
  have hc := hc9
  have hE := hE9
  have hR := hR9
  have hK51 := hK519
  have hK52 := hK529
  have hR51_0 := hR51_09
  have hK66 := hK669
  have hR51_1 := hR51_19
  have hK74 := hK749
  have hR51_2 := hR51_29
  have hK81 := hK819
  have hR51_3 : S28.2.2.2.2 51 3 = some 81 := by rw [e_S28]; exact q_u2_s S25.2.2.2.2 51 3 (some 81)
  refine V_aload_n dX7_init_64 rfl rfl ?_
  refine V_new (ci := 1) dX7_init_65 (by decide) cl_RX7_43 is_RX1 ii_RX1 (by rw [hN]; decide) hc (q_vbn hN rfl) (q_vbn hN rfl) (by decide) (by decide) (fun a30 => ?_)
  rw [hN]
  refine V_memS (fun S29 e_S29 => ?_)
  refine V_memI (fun I31 e_I31 => ?_)
  replace h := h a30 S29 e_S29 I31 e_I31
  have hM9 := hN
  have hN9 : S29.2.1 = 89 := by rw [e_S29]; show _ + 1 = 89; rw [hN]
  have hc9 : q_cl S29 := by rw [e_S29]; exact q_cl_new hc _ _ _
  have hE9 : Ex S S29 := by rw [e_S29]; exact hE.tr (Ex.new _ (by rw [hN]; decide) _ _ _)
  have hR9 : q_Rk 51 S S29 := by rw [e_S29]; exact hR.new hE.1 _ _ _
  have hK519 : S29.2.2.1 51 = 7 := by rw [e_S29]; exact (if_neg (by rw [hN]; decide)).trans hK51
  have hK529 : S29.2.2.1 52 = 4 := by rw [e_S29]; exact (if_neg (by rw [hN]; decide)).trans hK52
  have hR51_09 : S29.2.2.2.2 51 0 = some 52 := by rw [e_S29]; exact (congrFun (if_neg (by rw [hN]; decide)) _).trans hR51_0
  have hK669 : S29.2.2.1 66 = 2 := by rw [e_S29]; exact (if_neg (by rw [hN]; decide)).trans hK66
  have hR51_19 : S29.2.2.2.2 51 1 = some 66 := by rw [e_S29]; exact (congrFun (if_neg (by rw [hN]; decide)) _).trans hR51_1
  have hK749 : S29.2.2.1 74 = 0 := by rw [e_S29]; exact (if_neg (by rw [hN]; decide)).trans hK74
  have hR51_29 : S29.2.2.2.2 51 2 = some 74 := by rw [e_S29]; exact (congrFun (if_neg (by rw [hN]; decide)) _).trans hR51_2
  have hK819 : S29.2.2.1 81 = 3 := by rw [e_S29]; exact (if_neg (by rw [hN]; decide)).trans hK81
  have hR51_39 : S29.2.2.2.2 51 3 = some 81 := by rw [e_S29]; exact (congrFun (if_neg (by rw [hN]; decide)) _).trans hR51_3
  clear hc hE hR hK51 hK52 hK66 hK74 hK81  hR51_0 hR51_1 hR51_2 hR51_3
  have hN := hN9
  have hc := hc9
  have hE := hE9
  have hR := hR9
  have hK51 := hK519
  have hK52 := hK529
  have hR51_0 := hR51_09
  have hK66 := hK669
  have hR51_1 := hR51_19
  have hK74 := hK749
  have hR51_2 := hR51_29
  have hK81 := hK819
  have hR51_3 := hR51_39
  have hK88 : S29.2.2.1 88 = 1 := by rw [e_S29]; exact if_pos hM9.symm
  clear hM9
  refine V_dup dX7_init_68 rfl ?_
  refine V_aload_n dX7_init_69 rfl rfl ?_
  refine V_getr dX7_init_70 fl_RX7_10 (by rw [hN]; decide) hK51 rfl hR51_0 ?_
  refine V_callIk (st := [.ref 88, .ref 51]) [.ref 52] dX7_init_73 ok_mX1_init rfl ml_RX7_45 in_mX1_init rfl rfl (Nat.le_of_ble_eq_true rfl) (by decide) (by decide) (by decide) (q_vbn hN rfl) (q_vbn hN rfl) (s_X1_init_at88 hN hc hK88 h) (fun S32 I33 J34 hE8 hc8 hN8 hR8 h => ?_)
  have hN9 : S32.2.1 = 97 := by rw [hN8, hN]
  have hE9 := hE.tr hE8
  have hR9 := hR.call hE hR8 (by rw [hN0]; decide)
  have hK519 : S32.2.2.1 51 = 7 := (hE8.2.1 51 (by rw [hN]; decide)).2.1.trans hK51
  have hK529 : S32.2.2.1 52 = 4 := (hE8.2.1 52 (by rw [hN]; decide)).2.1.trans hK52
  have hR51_09 : S32.2.2.2.2 51 0 = some 52 := (congrFun (hR8 51 (by rw [hN]; decide) (by decide)) _).trans hR51_0
  have hK669 : S32.2.2.1 66 = 2 := (hE8.2.1 66 (by rw [hN]; decide)).2.1.trans hK66
  have hR51_19 : S32.2.2.2.2 51 1 = some 66 := (congrFun (hR8 51 (by rw [hN]; decide) (by decide)) _).trans hR51_1
  have hK749 : S32.2.2.1 74 = 0 := (hE8.2.1 74 (by rw [hN]; decide)).2.1.trans hK74
  have hR51_29 : S32.2.2.2.2 51 2 = some 74 := (congrFun (hR8 51 (by rw [hN]; decide) (by decide)) _).trans hR51_2
  have hK819 : S32.2.2.1 81 = 3 := (hE8.2.1 81 (by rw [hN]; decide)).2.1.trans hK81
  have hR51_39 : S32.2.2.2.2 51 3 = some 81 := (congrFun (hR8 51 (by rw [hN]; decide) (by decide)) _).trans hR51_3
  have hK889 : S32.2.2.1 88 = 1 := (hE8.2.1 88 (by rw [hN]; decide)).2.1.trans hK88
  clear hc hE hR hK51 hK52 hK66 hK74 hK81 hK88  hR51_0 hR51_1 hR51_2 hR51_3
  have hN := hN9
  have hc := hc8
  have hE := hE9
  have hR := hR9
  have hK51 := hK519
  have hK52 := hK529
  have hR51_0 := hR51_09
  have hK66 := hK669
  have hR51_1 := hR51_19
  have hK74 := hK749
  have hR51_2 := hR51_29
  have hK81 := hK819
  have hR51_3 := hR51_39
  have hK88 := hK889
  refine V_putF dX7_init_76 fl_RX7_46 rfl rfl rfl (by rw [hN]; decide) hK51 rfl (fun _ => rfl) (fun _ => rfl) ?_
  refine V_memS (fun S35 e_S35 => ?_)
  replace h := h S35 e_S35
  have hN9 : S35.2.1 = 97 := by rw [e_S35]; exact hN
  have hc9 : q_cl S35 := by rw [e_S35]; exact q_cl_put hc (by rw [hN]; decide)
  have hE9 : Ex S S35 := by rw [e_S35]; exact hE.tr (Ex.put _ _)
  have hR9 : q_Rk 51 S S35 := by rw [e_S35]; exact hR.put (Or.inl rfl)
  have hK519 : S35.2.2.1 51 = 7 := by rw [e_S35]; exact hK51
  have hK529 : S35.2.2.1 52 = 4 := by rw [e_S35]; exact hK52
  have hR51_09 : S35.2.2.2.2 51 0 = some 52 := by rw [e_S35]; exact (if_neg (t := some 88) (show ¬ ((51 : Nat) = 51 ∧ (0 : Nat) = 4) by decide)).trans hR51_0
  have hK669 : S35.2.2.1 66 = 2 := by rw [e_S35]; exact hK66
  have hR51_19 : S35.2.2.2.2 51 1 = some 66 := by rw [e_S35]; exact (if_neg (t := some 88) (show ¬ ((51 : Nat) = 51 ∧ (1 : Nat) = 4) by decide)).trans hR51_1
  have hK749 : S35.2.2.1 74 = 0 := by rw [e_S35]; exact hK74
  have hR51_29 : S35.2.2.2.2 51 2 = some 74 := by rw [e_S35]; exact (if_neg (t := some 88) (show ¬ ((51 : Nat) = 51 ∧ (2 : Nat) = 4) by decide)).trans hR51_2
  have hK819 : S35.2.2.1 81 = 3 := by rw [e_S35]; exact hK81
  have hR51_39 : S35.2.2.2.2 51 3 = some 81 := by rw [e_S35]; exact (if_neg (t := some 88) (show ¬ ((51 : Nat) = 51 ∧ (3 : Nat) = 4) by decide)).trans hR51_3
  have hK889 : S35.2.2.1 88 = 1 := by rw [e_S35]; exact hK88
  clear hc hE hR hK51 hK52 hK66 hK74 hK81 hK88  hR51_0 hR51_1 hR51_2 hR51_3
  have hN := hN9
  have hc := hc9
  have hE := hE9
  have hR := hR9
  have hK51 := hK519
  have hK52 := hK529
  have hR51_0 := hR51_09
  have hK66 := hK669
  have hR51_1 := hR51_19
  have hK74 := hK749
  have hR51_2 := hR51_29
  have hK81 := hK819
  have hR51_3 := hR51_39
  have hK88 := hK889
  have hR51_4 : S35.2.2.2.2 51 4 = some 88 := by rw [e_S35]; exact q_u2_s S32.2.2.2.2 51 4 (some 88)
  refine V_aload_n dX7_init_79 rfl rfl ?_
  refine V_new (ci := 6) dX7_init_80 (by decide) cl_RX7_50 is_RX6 ii_RX6 (by rw [hN]; decide) hc (q_vbn hN rfl) (q_vbn hN rfl) (by decide) (by decide) (fun a37 => ?_)
  rw [hN]
  refine V_memS (fun S36 e_S36 => ?_)
  refine V_memI (fun I38 e_I38 => ?_)
  replace h := h a37 S36 e_S36 I38 e_I38
  have hM9 := hN
  have hN9 : S36.2.1 = 98 := by rw [e_S36]; show _ + 1 = 98; rw [hN]
  have hc9 : q_cl S36 := by rw [e_S36]; exact q_cl_new hc _ _ _
  have hE9 : Ex S S36 := by rw [e_S36]; exact hE.tr (Ex.new _ (by rw [hN]; decide) _ _ _)
  have hR9 : q_Rk 51 S S36 := by rw [e_S36]; exact hR.new hE.1 _ _ _
  have hK519 : S36.2.2.1 51 = 7 := by rw [e_S36]; exact (if_neg (by rw [hN]; decide)).trans hK51
  have hK529 : S36.2.2.1 52 = 4 := by rw [e_S36]; exact (if_neg (by rw [hN]; decide)).trans hK52
  have hR51_09 : S36.2.2.2.2 51 0 = some 52 := by rw [e_S36]; exact (congrFun (if_neg (by rw [hN]; decide)) _).trans hR51_0
  have hK669 : S36.2.2.1 66 = 2 := by rw [e_S36]; exact (if_neg (by rw [hN]; decide)).trans hK66
  have hR51_19 : S36.2.2.2.2 51 1 = some 66 := by rw [e_S36]; exact (congrFun (if_neg (by rw [hN]; decide)) _).trans hR51_1
  have hK749 : S36.2.2.1 74 = 0 := by rw [e_S36]; exact (if_neg (by rw [hN]; decide)).trans hK74
  have hR51_29 : S36.2.2.2.2 51 2 = some 74 := by rw [e_S36]; exact (congrFun (if_neg (by rw [hN]; decide)) _).trans hR51_2
  have hK819 : S36.2.2.1 81 = 3 := by rw [e_S36]; exact (if_neg (by rw [hN]; decide)).trans hK81
  have hR51_39 : S36.2.2.2.2 51 3 = some 81 := by rw [e_S36]; exact (congrFun (if_neg (by rw [hN]; decide)) _).trans hR51_3
  have hK889 : S36.2.2.1 88 = 1 := by rw [e_S36]; exact (if_neg (by rw [hN]; decide)).trans hK88
  have hR51_49 : S36.2.2.2.2 51 4 = some 88 := by rw [e_S36]; exact (congrFun (if_neg (by rw [hN]; decide)) _).trans hR51_4
  clear hc hE hR hK51 hK52 hK66 hK74 hK81 hK88  hR51_0 hR51_1 hR51_2 hR51_3 hR51_4
  have hN := hN9
  have hc := hc9
  have hE := hE9
  have hR := hR9
  have hK51 := hK519
  have hK52 := hK529
  have hR51_0 := hR51_09
  have hK66 := hK669
  have hR51_1 := hR51_19
  have hK74 := hK749
  have hR51_2 := hR51_29
  have hK81 := hK819
  have hR51_3 := hR51_39
  have hK88 := hK889
  have hR51_4 := hR51_49
  have hK97 : S36.2.2.1 97 = 6 := by rw [e_S36]; exact if_pos hM9.symm
  clear hM9
  refine V_dup dX7_init_83 rfl ?_
  refine V_aload_n dX7_init_84 rfl rfl ?_
  refine V_getr dX7_init_85 fl_RX7_10 (by rw [hN]; decide) hK51 rfl hR51_0 ?_
  refine V_callIk (st := [.ref 97, .ref 51]) [.ref 52] dX7_init_88 ok_mX6_init rfl ml_RX7_52 in_mX6_init rfl rfl (Nat.le_of_ble_eq_true rfl) (by decide) (by decide) (by decide) (q_vbn hN rfl) (q_vbn hN rfl) (s_X6_init_at97 hN hc hK97 h) (fun S39 I40 J41 hE8 hc8 hN8 hR8 h => ?_)
  have hN9 : S39.2.1 = 102 := by rw [hN8, hN]
  have hE9 := hE.tr hE8
  have hR9 := hR.call hE hR8 (by rw [hN0]; decide)
  have hK519 : S39.2.2.1 51 = 7 := (hE8.2.1 51 (by rw [hN]; decide)).2.1.trans hK51
  have hK529 : S39.2.2.1 52 = 4 := (hE8.2.1 52 (by rw [hN]; decide)).2.1.trans hK52
  have hR51_09 : S39.2.2.2.2 51 0 = some 52 := (congrFun (hR8 51 (by rw [hN]; decide) (by decide)) _).trans hR51_0
  have hK669 : S39.2.2.1 66 = 2 := (hE8.2.1 66 (by rw [hN]; decide)).2.1.trans hK66
  have hR51_19 : S39.2.2.2.2 51 1 = some 66 := (congrFun (hR8 51 (by rw [hN]; decide) (by decide)) _).trans hR51_1
  have hK749 : S39.2.2.1 74 = 0 := (hE8.2.1 74 (by rw [hN]; decide)).2.1.trans hK74
  have hR51_29 : S39.2.2.2.2 51 2 = some 74 := (congrFun (hR8 51 (by rw [hN]; decide) (by decide)) _).trans hR51_2
  have hK819 : S39.2.2.1 81 = 3 := (hE8.2.1 81 (by rw [hN]; decide)).2.1.trans hK81
  have hR51_39 : S39.2.2.2.2 51 3 = some 81 := (congrFun (hR8 51 (by rw [hN]; decide) (by decide)) _).trans hR51_3
  have hK889 : S39.2.2.1 88 = 1 := (hE8.2.1 88 (by rw [hN]; decide)).2.1.trans hK88
  have hR51_49 : S39.2.2.2.2 51 4 = some 88 := (congrFun (hR8 51 (by rw [hN]; decide) (by decide)) _).trans hR51_4
  have hK979 : S39.2.2.1 97 = 6 := (hE8.2.1 97 (by rw [hN]; decide)).2.1.trans hK97
  clear hc hE hR hK51 hK52 hK66 hK74 hK81 hK88 hK97  hR51_0 hR51_1 hR51_2 hR51_3 hR51_4
  have hN := hN9
  have hc := hc8
  have hE := hE9
  have hR := hR9
  have hK51 := hK519
  have hK52 := hK529
  have hR51_0 := hR51_09
  have hK66 := hK669
  have hR51_1 := hR51_19
  have hK74 := hK749
  have hR51_2 := hR51_29
  have hK81 := hK819
  have hR51_3 := hR51_39
  have hK88 := hK889
  have hR51_4 := hR51_49
  have hK97 := hK979
  refine V_putF dX7_init_91 fl_RX7_53 rfl rfl rfl (by rw [hN]; decide) hK51 rfl (fun _ => rfl) (fun _ => rfl) ?_
  refine V_memS (fun S42 e_S42 => ?_)
  replace h := h S42 e_S42
  have hN9 : S42.2.1 = 102 := by rw [e_S42]; exact hN
  have hc9 : q_cl S42 := by rw [e_S42]; exact q_cl_put hc (by rw [hN]; decide)
  have hE9 : Ex S S42 := by rw [e_S42]; exact hE.tr (Ex.put _ _)
  have hR9 : q_Rk 51 S S42 := by rw [e_S42]; exact hR.put (Or.inl rfl)
  have hK519 : S42.2.2.1 51 = 7 := by rw [e_S42]; exact hK51
  have hK529 : S42.2.2.1 52 = 4 := by rw [e_S42]; exact hK52
  have hR51_09 : S42.2.2.2.2 51 0 = some 52 := by rw [e_S42]; exact (if_neg (t := some 97) (show ¬ ((51 : Nat) = 51 ∧ (0 : Nat) = 5) by decide)).trans hR51_0
  have hK669 : S42.2.2.1 66 = 2 := by rw [e_S42]; exact hK66
  have hR51_19 : S42.2.2.2.2 51 1 = some 66 := by rw [e_S42]; exact (if_neg (t := some 97) (show ¬ ((51 : Nat) = 51 ∧ (1 : Nat) = 5) by decide)).trans hR51_1
  have hK749 : S42.2.2.1 74 = 0 := by rw [e_S42]; exact hK74
  have hR51_29 : S42.2.2.2.2 51 2 = some 74 := by rw [e_S42]; exact (if_neg (t := some 97) (show ¬ ((51 : Nat) = 51 ∧ (2 : Nat) = 5) by decide)).trans hR51_2
  have hK819 : S42.2.2.1 81 = 3 := by rw [e_S42]; exact hK81
  have hR51_39 : S42.2.2.2.2 51 3 = some 81 := by rw [e_S42]; exact (if_neg (t := some 97) (show ¬ ((51 : Nat) = 51 ∧ (3 : Nat) = 5) by decide)).trans hR51_3
  have hK889 : S42.2.2.1 88 = 1 := by rw [e_S42]; exact hK88
  have hR51_49 : S42.2.2.2.2 51 4 = some 88 := by rw [e_S42]; exact (if_neg (t := some 97) (show ¬ ((51 : Nat) = 51 ∧ (4 : Nat) = 5) by decide)).trans hR51_4
  have hK979 : S42.2.2.1 97 = 6 := by rw [e_S42]; exact hK97
  clear hc hE hR hK51 hK52 hK66 hK74 hK81 hK88 hK97  hR51_0 hR51_1 hR51_2 hR51_3 hR51_4
  have hN := hN9
  have hc := hc9
  have hE := hE9
  have hR := hR9
  have hK51 := hK519
  have hK52 := hK529
  have hR51_0 := hR51_09
  have hK66 := hK669
  have hR51_1 := hR51_19
  have hK74 := hK749
  have hR51_2 := hR51_29
  have hK81 := hK819
  have hR51_3 := hR51_39
  have hK88 := hK889
  have hR51_4 := hR51_49
  have hK97 := hK979
  have hR51_5 : S42.2.2.2.2 51 5 = some 97 := by rw [e_S42]; exact q_u2_s S39.2.2.2.2 51 5 (some 97)
  refine V_aload_n dX7_init_94 rfl rfl ?_
  refine V_ldc dX7_init_95 co_RX7_57 ?_
  refine V_puti dX7_init_97 fl_RX7_58 rfl (by rw [hN]; decide) hK51 rfl rfl rfl ?_
  refine V_memI (fun I43 e_I43 => ?_)
  replace h := h I43 e_I43
  exact V_vret dX7_init_100 rfl (by decide) (by decide) ⟨rfl, hE, hc, by rw [hN, hN0], hR, h⟩
