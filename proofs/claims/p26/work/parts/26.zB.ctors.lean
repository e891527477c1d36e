def w_X2_init_at15 (S : QS) (I : QI) (J : QJ) (post : QS → QI → QJ → Prop) : Prop := (∀ S1 : QS, S1 = q_sR S (q_u2 S.2.2.2.2 15 0 (some 1)) → (∀ a3 : Nat, ∀ S2 : QS, S2 = q_nS S1 a3 9 24 → (∀ I4 : QI, I4 = q_rw I 16 (fun _ => 0) → (∀ S5 : QS, S5 = q_sR S2 (q_u2 S2.2.2.2.2 15 1 (some 16)) → (∀ a7 : Nat, ∀ S6 : QS, S6 = q_nS S5 a7 9 24 → (∀ I8 : QI, I8 = q_rw I4 17 (fun _ => 0) → (∀ S9 : QS, S9 = q_sR S6 (q_u2 S6.2.2.2.2 15 2 (some 17)) → (∀ a11 : Nat, ∀ S10 : QS, S10 = q_nS S9 a11 9 24 → (∀ I12 : QI, I12 = q_rw I8 18 (fun _ => 0) → (∀ S13 : QS, S13 = q_sR S10 (q_u2 S10.2.2.2.2 15 3 (some 18)) → (∀ a15 : Nat, ∀ S14 : QS, S14 = q_nS S13 a15 9 24 → (∀ I16 : QI, I16 = q_rw I12 19 (fun _ => 0) → (∀ S17 : QS, S17 = q_sR S14 (q_u2 S14.2.2.2.2 15 4 (some 19)) → (∀ a19 : Nat, ∀ S18 : QS, S18 = q_nS S17 a19 9 24 → (∀ I20 : QI, I20 = q_rw I16 20 (fun _ => 0) → (∀ S21 : QS, S21 = q_sR S18 (q_u2 S18.2.2.2.2 15 5 (some 20)) → (∀ a23 : Nat, ∀ S22 : QS, S22 = q_nS S21 a23 9 24 → (∀ I24 : QI, I24 = q_rw I20 21 (fun _ => 0) → (∀ S25 : QS, S25 = q_sR S22 (q_u2 S22.2.2.2.2 15 6 (some 21)) → (∀ a27 : Nat, ∀ S26 : QS, S26 = q_nS S25 a27 9 24 → (∀ I28 : QI, I28 = q_rw I24 22 (fun _ => 0) → (∀ S29 : QS, S29 = q_sR S26 (q_u2 S26.2.2.2.2 15 7 (some 22)) → (post S29 I28 J)))))))))))))))))))))))
set_option maxRecDepth 100000 in
set_option maxHeartbeats 4000000 in
theorem s_X2_init_at15 {X : QX} {S : QS} {I : QI} {J : QJ} {post : QS → QI → QJ → Prop} (hN : S.2.1 = 16) (hc : q_cl S) (hK15 : S.2.2.1 15 = 2) (h : w_X2_init_at15 S I J post) : CX X mX2_init 1 7 168 [.ref 15, .ref 1] S I J (q_Pk 15 S 7 post) := by
  have hN0 := hN
  have hE : Ex S S := Ex.rf
  have hR : q_Rk 15 S S := q_Rk.rf
  refine CX.of (lo := [(0, .ref 15), (1, .ref 1)]) ok_mX2_init rfl (Nat.le_of_ble_eq_true rfl) rfl ?_
  replace h : (∀ S1 : QS, S1 = q_sR S (q_u2 S.2.2.2.2 15 0 (some 1)) → (∀ a3 : Nat, ∀ S2 : QS, S2 = q_nS S1 a3 9 24 → (∀ I4 : QI, I4 = q_rw I 16 (fun _ => 0) → (∀ S5 : QS, S5 = q_sR S2 (q_u2 S2.2.2.2.2 15 1 (some 16)) → (∀ a7 : Nat, ∀ S6 : QS, S6 = q_nS S5 a7 9 24 → (∀ I8 : QI, I8 = q_rw I4 17 (fun _ => 0) → (∀ S9 : QS, S9 = q_sR S6 (q_u2 S6.2.2.2.2 15 2 (some 17)) → (∀ a11 : Nat, ∀ S10 : QS, S10 = q_nS S9 a11 9 24 → (∀ I12 : QI, I12 = q_rw I8 18 (fun _ => 0) → (∀ S13 : QS, S13 = q_sR S10 (q_u2 S10.2.2.2.2 15 3 (some 18)) → (∀ a15 : Nat, ∀ S14 : QS, S14 = q_nS S13 a15 9 24 → (∀ I16 : QI, I16 = q_rw I12 19 (fun _ => 0) → (∀ S17 : QS, S17 = q_sR S14 (q_u2 S14.2.2.2.2 15 4 (some 19)) → (∀ a19 : Nat, ∀ S18 : QS, S18 = q_nS S17 a19 9 24 → (∀ I20 : QI, I20 = q_rw I16 20 (fun _ => 0) → (∀ S21 : QS, S21 = q_sR S18 (q_u2 S18.2.2.2.2 15 5 (some 20)) → (∀ a23 : Nat, ∀ S22 : QS, S22 = q_nS S21 a23 9 24 → (∀ I24 : QI, I24 = q_rw I20 21 (fun _ => 0) → (∀ S25 : QS, S25 = q_sR S22 (q_u2 S22.2.2.2.2 15 6 (some 21)) → (∀ a27 : Nat, ∀ S26 : QS, S26 = q_nS S25 a27 9 24 → (∀ I28 : QI, I28 = q_rw I24 22 (fun _ => 0) → (∀ S29 : QS, S29 = q_sR S26 (q_u2 S26.2.2.2.2 15 7 (some 22)) → (post S29 I28 J))))))))))))))))))))))) := h
  refine V_aload_n dX2_init_0 rfl rfl ?_
  refine V_objInit dX2_init_1 ml_RX2_3 ob_in ob_co (Nat.le_of_ble_eq_true rfl) ?_
  refine V_aload_n dX2_init_4 rfl rfl ?_
  refine V_aload_n dX2_init_5 rfl rfl ?_
  refine V_putF dX2_init_6 fl_RX2_9 rfl rfl rfl (by rw [hN]; decide) hK15 rfl (fun _ => rfl) (fun _ => rfl) ?_
  refine V_memS (fun S1 e_S1 => ?_)
  replace h := h S1 e_S1
  have hN9 : S1.2.1 = 16 := by rw [e_S1]; exact hN
  have hc9 : q_cl S1 := by rw [e_S1]; exact q_cl_put hc (by rw [hN]; decide)
  have hE9 : Ex S S1 := by rw [e_S1]; exact hE.tr (Ex.put _ _)
  have hR9 : q_Rk 15 S S1 := by rw [e_S1]; exact hR.put (Or.inl rfl)
  have hK159 : S1.2.2.1 15 = 2 := by rw [e_S1]; exact hK15
  clear hc hE hR hK15  
  have hN := hN9
  have hc := hc9
  have hE := hE9
  have hR := hR9
  have hK15 := hK159
  refine V_aload_n dX2_init_9 rfl rfl ?_
  refine V_bipush (v := 24) dX2_init_10 (by decide) ?_
  refine V_newI (z := 24) dX2_init_12 ac_int (by decide) (by decide) (by decide) (by rw [hN]; decide) hc (q_vbn hN rfl) (q_vbn hN rfl) (by decide) (by decide) (fun a3 => ?_)
  rw [hN]
  refine V_memS (fun S2 e_S2 => ?_)
  refine V_memI (fun I4 e_I4 => ?_)
  replace h := h a3 S2 e_S2 I4 e_I4
  have hM9 := hN
  have hN9 : S2.2.1 = 17 := by rw [e_S2]; show _ + 1 = 17; rw [hN]
  have hc9 : q_cl S2 := by rw [e_S2]; exact q_cl_new hc _ _ _
  have hE9 : Ex S S2 := by rw [e_S2]; exact hE.tr (Ex.new _ (by rw [hN]; decide) _ _ _)
  have hR9 : q_Rk 15 S S2 := by rw [e_S2]; exact hR.new hE.1 _ _ _
  have hK159 : S2.2.2.1 15 = 2 := by rw [e_S2]; exact (if_neg (by rw [hN]; decide)).trans hK15
  clear hc hE hR hK15  
  have hN := hN9
  have hc := hc9
  have hE := hE9
  have hR := hR9
  have hK15 := hK159
  clear hM9
  refine V_putF dX2_init_14 fl_RX2_15 rfl rfl rfl (by rw [hN]; decide) hK15 rfl (fun _ => rfl) (fun _ => rfl) ?_
  refine V_memS (fun S5 e_S5 => ?_)
  replace h := h S5 e_S5
  have hN9 : S5.2.1 = 17 := by rw [e_S5]; exact hN
  have hc9 : q_cl S5 := by rw [e_S5]; exact q_cl_put hc (by rw [hN]; decide)
  have hE9 : Ex S S5 := by rw [e_S5]; exact hE.tr (Ex.put _ _)
  have hR9 : q_Rk 15 S S5 := by rw [e_S5]; exact hR.put (Or.inl rfl)
  have hK159 : S5.2.2.1 15 = 2 := by rw [e_S5]; exact hK15
  clear hc hE hR hK15  
  have hN := hN9
  have hc := hc9
  have hE := hE9
  have hR := hR9
  have hK15 := hK159
  refine V_aload_n dX2_init_17 rfl rfl ?_
  refine V_bipush (v := 24) dX2_init_18 (by decide) ?_
  refine V_newI (z := 24) dX2_init_20 ac_int (by decide) (by decide) (by decide) (by rw [hN]; decide) hc (q_vbn hN rfl) (q_vbn hN rfl) (by decide) (by decide) (fun a7 => ?_)
  rw [hN]
  refine V_memS (fun S6 e_S6 => ?_)
  refine V_memI (fun I8 e_I8 => ?_)
  replace h := h a7 S6 e_S6 I8 e_I8
  have hM9 := hN
  have hN9 : S6.2.1 = 18 := by rw [e_S6]; show _ + 1 = 18; rw [hN]
  have hc9 : q_cl S6 := by rw [e_S6]; exact q_cl_new hc _ _ _
  have hE9 : Ex S S6 := by rw [e_S6]; exact hE.tr (Ex.new _ (by rw [hN]; decide) _ _ _)
  have hR9 : q_Rk 15 S S6 := by rw [e_S6]; exact hR.new hE.1 _ _ _
  have hK159 : S6.2.2.1 15 = 2 := by rw [e_S6]; exact (if_neg (by rw [hN]; decide)).trans hK15
  clear hc hE hR hK15  
  have hN := hN9
  have hc := hc9
  have hE := hE9
  have hR := hR9
  have hK15 := hK159
  clear hM9
  refine V_putF dX2_init_22 fl_RX2_19 rfl rfl rfl (by rw [hN]; decide) hK15 rfl (fun _ => rfl) (fun _ => rfl) ?_
  refine V_memS (fun S9 e_S9 => ?_)
  replace h := h S9 e_S9
  have hN9 : S9.2.1 = 18 := by rw [e_S9]; exact hN
  have hc9 : q_cl S9 := by rw [e_S9]; exact q_cl_put hc (by rw [hN]; decide)
  have hE9 : Ex S S9 := by rw [e_S9]; exact hE.tr (Ex.put _ _)
  have hR9 : q_Rk 15 S S9 := by rw [e_S9]; exact hR.put (Or.inl rfl)
  have hK159 : S9.2.2.1 15 = 2 := by rw [e_S9]; exact hK15
  clear hc hE hR hK15  
  have hN := hN9
  have hc := hc9
  have hE := hE9
  have hR := hR9
  have hK15 := hK159
  refine V_aload_n dX2_init_25 rfl rfl ?_
  refine V_bipush (v := 24) dX2_init_26 (by decide) ?_
  refine V_newI (z := 24) dX2_init_28 ac_int (by decide) (by decide) (by decide) (by rw [hN]; decide) hc (q_vbn hN rfl) (q_vbn hN rfl) (by decide) (by decide) (fun a11 => ?_)
  rw [hN]
  refine V_memS (fun S10 e_S10 => ?_)
  refine V_memI (fun I12 e_I12 => ?_)
  replace h := h a11 S10 e_S10 I12 e_I12
  have hM9 := hN
  have hN9 : S10.2.1 = 19 := by rw [e_S10]; show _ + 1 = 19; rw [hN]
  have hc9 : q_cl S10 := by rw [e_S10]; exact q_cl_new hc _ _ _
  have hE9 : Ex S S10 := by rw [e_S10]; exact hE.tr (Ex.new _ (by rw [hN]; decide) _ _ _)
  have hR9 : q_Rk 15 S S10 := by rw [e_S10]; exact hR.new hE.1 _ _ _
  have hK159 : S10.2.2.1 15 = 2 := by rw [e_S10]; exact (if_neg (by rw [hN]; decide)).trans hK15
  clear hc hE hR hK15  
  have hN := hN9
  have hc := hc9
  have hE := hE9
  have hR := hR9
  have hK15 := hK159
  clear hM9
  refine V_putF dX2_init_30 fl_RX2_22 rfl rfl rfl (by rw [hN]; decide) hK15 rfl (fun _ => rfl) (fun _ => rfl) ?_
  refine V_memS (fun S13 e_S13 => ?_)
  replace h := h S13 e_S13
  have hN9 : S13.2.1 = 19 := by rw [e_S13]; exact hN
  have hc9 : q_cl S13 := by rw [e_S13]; exact q_cl_put hc (by rw [hN]; decide)
  have hE9 : Ex S S13 := by rw [e_S13]; exact hE.tr (Ex.put _ _)
  have hR9 : q_Rk 15 S S13 := by rw [e_S13]; exact hR.put (Or.inl rfl)
  have hK159 : S13.2.2.1 15 = 2 := by rw [e_S13]; exact hK15
  clear hc hE hR hK15  
  have hN := hN9
  have hc := hc9
  have hE := hE9
  have hR := hR9
  have hK15 := hK159
  refine V_aload_n dX2_init_33 rfl rfl ?_
  refine V_bipush (v := 24) dX2_init_34 (by decide) ?_
  refine V_newI (z := 24) dX2_init_36 ac_int (by decide) (by decide) (by decide) (by rw [hN]; decide) hc (q_vbn hN rfl) (q_vbn hN rfl) (by decide) (by decide) (fun a15 => ?_)
  rw [hN]
  refine V_memS (fun S14 e_S14 => ?_)
  refine V_memI (fun I16 e_I16 => ?_)
  replace h := h a15 S14 e_S14 I16 e_I16
  have hM9 := hN
  have hN9 : S14.2.1 = 20 := by rw [e_S14]; show _ + 1 = 20; rw [hN]
  have hc9 : q_cl S14 := by rw [e_S14]; exact q_cl_new hc _ _ _
  have hE9 : Ex S S14 := by rw [e_S14]; exact hE.tr (Ex.new _ (by rw [hN]; decide) _ _ _)
  have hR9 : q_Rk 15 S S14 := by rw [e_S14]; exact hR.new hE.1 _ _ _
  have hK159 : S14.2.2.1 15 = 2 := by rw [e_S14]; exact (if_neg (by rw [hN]; decide)).trans hK15
  clear hc hE hR hK15  
  have hN := hN9
  have hc := hc9
  have hE := hE9
  have hR := hR9
  have hK15 := hK159
  clear hM9
  refine V_putF dX2_init_38 fl_RX2_25 rfl rfl rfl (by rw [hN]; decide) hK15 rfl (fun _ => rfl) (fun _ => rfl) ?_
  refine V_memS (fun S17 e_S17 => ?_)
  replace h := h S17 e_S17
  have hN9 : S17.2.1 = 20 := by rw [e_S17]; exact hN
  have hc9 : q_cl S17 := by rw [e_S17]; exact q_cl_put hc (by rw [hN]; decide)
  have hE9 : Ex S S17 := by rw [e_S17]; exact hE.tr (Ex.put _ _)
  have hR9 : q_Rk 15 S S17 := by rw [e_S17]; exact hR.put (Or.inl rfl)
  have hK159 : S17.2.2.1 15 = 2 := by rw [e_S17]; exact hK15
  clear hc hE hR hK15  
  have hN := hN9
  have hc := hc9
  have hE := hE9
  have hR := hR9
  have hK15 := hK159
  refine V_aload_n dX2_init_41 rfl rfl ?_
  refine V_bipush (v := 24) dX2_init_42 (by decide) ?_
  refine V_newI (z := 24) dX2_init_44 ac_int (by decide) (by decide) (by decide) (by rw [hN]; decide) hc (q_vbn hN rfl) (q_vbn hN rfl) (by decide) (by decide) (fun a19 => ?_)
  rw [hN]
  refine V_memS (fun S18 e_S18 => ?_)
  refine V_memI (fun I20 e_I20 => ?_)
  replace h := h a19 S18 e_S18 I20 e_I20
  have hM9 := hN
  have hN9 : S18.2.1 = 21 := by rw [e_S18]; show _ + 1 = 21; rw [hN]
  have hc9 : q_cl S18 := by rw [e_S18]; exact q_cl_new hc _ _ _
  have hE9 : Ex S S18 := by rw [e_S18]; exact hE.tr (Ex.new _ (by rw [hN]; decide) _ _ _)
  have hR9 : q_Rk 15 S S18 := by rw [e_S18]; exact hR.new hE.1 _ _ _
  have hK159 : S18.2.2.1 15 = 2 := by rw [e_S18]; exact (if_neg (by rw [hN]; decide)).trans hK15
  clear hc hE hR hK15  
  have hN := hN9
  have hc := hc9
  have hE := hE9
  have hR := hR9
  have hK15 := hK159
  clear hM9
  refine V_putF dX2_init_46 fl_RX2_28 rfl rfl rfl (by rw [hN]; decide) hK15 rfl (fun _ => rfl) (fun _ => rfl) ?_
  refine V_memS (fun S21 e_S21 => ?_)
  replace h := h S21 e_S21
  have hN9 : S21.2.1 = 21 := by rw [e_S21]; exact hN
  have hc9 : q_cl S21 := by rw [e_S21]; exact q_cl_put hc (by rw [hN]; decide)
  have hE9 : Ex S S21 := by rw [e_S21]; exact hE.tr (Ex.put _ _)
  have hR9 : q_Rk 15 S S21 := by rw [e_S21]; exact hR.put (Or.inl rfl)
  have hK159 : S21.2.2.1 15 = 2 := by rw [e_S21]; exact hK15
  clear hc hE hR hK15  
  have hN := hN9
  have hc := hc9
  have hE := hE9
  have hR := hR9
  have hK15 := hK159
  refine V_aload_n dX2_init_49 rfl rfl ?_
  refine V_bipush (v := 24) dX2_init_50 (by decide) ?_
  refine V_newI (z := 24) dX2_init_52 ac_int (by decide) (by decide) (by decide) (by rw [hN]; decide) hc (q_vbn hN rfl) (q_vbn hN rfl) (by decide) (by decide) (fun a23 => ?_)
  rw [hN]
  refine V_memS (fun S22 e_S22 => ?_)
  refine V_memI (fun I24 e_I24 => ?_)
  replace h := h a23 S22 e_S22 I24 e_I24
  have hM9 := hN
  have hN9 : S22.2.1 = 22 := by rw [e_S22]; show _ + 1 = 22; rw [hN]
  have hc9 : q_cl S22 := by rw [e_S22]; exact q_cl_new hc _ _ _
  have hE9 : Ex S S22 := by rw [e_S22]; exact hE.tr (Ex.new _ (by rw [hN]; decide) _ _ _)
  have hR9 : q_Rk 15 S S22 := by rw [e_S22]; exact hR.new hE.1 _ _ _
  have hK159 : S22.2.2.1 15 = 2 := by rw [e_S22]; exact (if_neg (by rw [hN]; decide)).trans hK15
  clear hc hE hR hK15  
  have hN := hN9
  have hc := hc9
  have hE := hE9
  have hR := hR9
  have hK15 := hK159
  clear hM9
  refine V_putF dX2_init_54 fl_RX2_31 rfl rfl rfl (by rw [hN]; decide) hK15 rfl (fun _ => rfl) (fun _ => rfl) ?_
  refine V_memS (fun S25 e_S25 => ?_)
  replace h := h S25 e_S25
  have hN9 : S25.2.1 = 22 := by rw [e_S25]; exact hN
  have hc9 : q_cl S25 := by rw [e_S25]; exact q_cl_put hc (by rw [hN]; decide)
  have hE9 : Ex S S25 := by rw [e_S25]; exact hE.tr (Ex.put _ _)
  have hR9 : q_Rk 15 S S25 := by rw [e_S25]; exact hR.put (Or.inl rfl)
  have hK159 : S25.2.2.1 15 = 2 := by rw [e_S25]; exact hK15
  clear hc hE hR hK15  
  have hN := hN9
  have hc := hc9
  have hE := hE9
  have hR := hR9
  have hK15 := hK159
  refine V_aload_n dX2_init_57 rfl rfl ?_
  refine V_bipush (v := 24) dX2_init_58 (by decide) ?_
  refine V_newI (z := 24) dX2_init_60 ac_int (by decide) (by decide) (by decide) (by rw [hN]; decide) hc (q_vbn hN rfl) (q_vbn hN rfl) (by decide) (by decide) (fun a27 => ?_)
  rw [hN]
  refine V_memS (fun S26 e_S26 => ?_)
  refine V_memI (fun I28 e_I28 => ?_)
  replace h := h a27 S26 e_S26 I28 e_I28
  have hM9 := hN
  have hN9 : S26.2.1 = 23 := by rw [e_S26]; show _ + 1 = 23; rw [hN]
  have hc9 : q_cl S26 := by rw [e_S26]; exact q_cl_new hc _ _ _
  have hE9 : Ex S S26 := by rw [e_S26]; exact hE.tr (Ex.new _ (by rw [hN]; decide) _ _ _)
  have hR9 : q_Rk 15 S S26 := by rw [e_S26]; exact hR.new hE.1 _ _ _
  have hK159 : S26.2.2.1 15 = 2 := by rw [e_S26]; exact (if_neg (by rw [hN]; decide)).trans hK15
  clear hc hE hR hK15  
  have hN := hN9
  have hc := hc9
  have hE := hE9
  have hR := hR9
  have hK15 := hK159
  clear hM9
  refine V_putF dX2_init_62 fl_RX2_34 rfl rfl rfl (by rw [hN]; decide) hK15 rfl (fun _ => rfl) (fun _ => rfl) ?_
  refine V_memS (fun S29 e_S29 => ?_)
  replace h := h S29 e_S29
  have hN9 : S29.2.1 = 23 := by rw [e_S29]; exact hN
  have hc9 : q_cl S29 := by rw [e_S29]; exact q_cl_put hc (by rw [hN]; decide)
  have hE9 : Ex S S29 := by rw [e_S29]; exact hE.tr (Ex.put _ _)
  have hR9 : q_Rk 15 S S29 := by rw [e_S29]; exact hR.put (Or.inl rfl)
  have hK159 : S29.2.2.1 15 = 2 := by rw [e_S29]; exact hK15
  clear hc hE hR hK15  
  have hN := hN9
  have hc := hc9
  have hE := hE9
  have hR := hR9
  have hK15 := hK159
  exact V_vret dX2_init_65 rfl (by decide) (by decide) ⟨rfl, hE, hc, by rw [hN, hN0], hR, h⟩
def w_X0_init_at23 (S : QS) (I : QI) (J : QJ) (post : QS → QI → QJ → Prop) : Prop := (∀ S1 : QS, S1 = q_sR S (q_u2 S.2.2.2.2 23 0 (some 1)) → (∀ S2 : QS, S2 = q_sR S1 (q_u2 S1.2.2.2.2 23 1 (some 15)) → (∀ a4 : Nat, ∀ S3 : QS, S3 = q_nS S2 a4 9 28800 → (∀ I5 : QI, I5 = q_rw I 24 (fun _ => 0) → (∀ S6 : QS, S6 = q_sR S3 (q_u2 S3.2.2.2.2 23 2 (some 24)) → (∀ a8 : Nat, ∀ S7 : QS, S7 = q_nS S6 a8 9 24 → (∀ I9 : QI, I9 = q_rw I5 25 (fun _ => 0) → (∀ S10 : QS, S10 = q_sR S7 (q_u2 S7.2.2.2.2 23 3 (some 25)) → (∀ a12 : Nat, ∀ S11 : QS, S11 = q_nS S10 a12 9 24 → (∀ I13 : QI, I13 = q_rw I9 26 (fun _ => 0) → (∀ S14 : QS, S14 = q_sR S11 (q_u2 S11.2.2.2.2 23 4 (some 26)) → (∀ a16 : Nat, ∀ S15 : QS, S15 = q_nS S14 a16 9 24 → (∀ I17 : QI, I17 = q_rw I13 27 (fun _ => 0) → (∀ S18 : QS, S18 = q_sR S15 (q_u2 S15.2.2.2.2 23 5 (some 27)) → (∀ a20 : Nat, ∀ S19 : QS, S19 = q_nS S18 a20 11 24 → (∀ I21 : QI, I21 = q_rw I17 28 (fun _ => 0) → (∀ S22 : QS, S22 = q_sR S19 (q_u2 S19.2.2.2.2 23 6 (some 28)) → (∀ a24 : Nat, ∀ S23 : QS, S23 = q_nS S22 a24 11 200 → (∀ I25 : QI, I25 = q_rw I21 29 (fun _ => 0) → (∀ S26 : QS, S26 = q_sR S23 (q_u2 S23.2.2.2.2 23 7 (some 29)) → (post S26 I25 J)))))))))))))))))))))
set_option maxRecDepth 100000 in
set_option maxHeartbeats 4000000 in
theorem s_X0_init_at23 {X : QX} {S : QS} {I : QI} {J : QJ} {post : QS → QI → QJ → Prop} (hN : S.2.1 = 24) (hc : q_cl S) (hK23 : S.2.2.1 23 = 0) (h : w_X0_init_at23 S I J post) : CX X mX0_init 1 6 29096 [.ref 23, .ref 1, .ref 15] S I J (q_Pk 23 S 6 post) := by
  have hN0 := hN
  have hE : Ex S S := Ex.rf
  have hR : q_Rk 23 S S := q_Rk.rf
  refine CX.of (lo := [(0, .ref 23), (1, .ref 1), (2, .ref 15)]) ok_mX0_init rfl (Nat.le_of_ble_eq_true rfl) rfl ?_
  replace h : (∀ S1 : QS, S1 = q_sR S (q_u2 S.2.2.2.2 23 0 (some 1)) → (∀ S2 : QS, S2 = q_sR S1 (q_u2 S1.2.2.2.2 23 1 (some 15)) → (∀ a4 : Nat, ∀ S3 : QS, S3 = q_nS S2 a4 9 28800 → (∀ I5 : QI, I5 = q_rw I 24 (fun _ => 0) → (∀ S6 : QS, S6 = q_sR S3 (q_u2 S3.2.2.2.2 23 2 (some 24)) → (∀ a8 : Nat, ∀ S7 : QS, S7 = q_nS S6 a8 9 24 → (∀ I9 : QI, I9 = q_rw I5 25 (fun _ => 0) → (∀ S10 : QS, S10 = q_sR S7 (q_u2 S7.2.2.2.2 23 3 (some 25)) → (∀ a12 : Nat, ∀ S11 : QS, S11 = q_nS S10 a12 9 24 → (∀ I13 : QI, I13 = q_rw I9 26 (fun _ => 0) → (∀ S14 : QS, S14 = q_sR S11 (q_u2 S11.2.2.2.2 23 4 (some 26)) → (∀ a16 : Nat, ∀ S15 : QS, S15 = q_nS S14 a16 9 24 → (∀ I17 : QI, I17 = q_rw I13 27 (fun _ => 0) → (∀ S18 : QS, S18 = q_sR S15 (q_u2 S15.2.2.2.2 23 5 (some 27)) → (∀ a20 : Nat, ∀ S19 : QS, S19 = q_nS S18 a20 11 24 → (∀ I21 : QI, I21 = q_rw I17 28 (fun _ => 0) → (∀ S22 : QS, S22 = q_sR S19 (q_u2 S19.2.2.2.2 23 6 (some 28)) → (∀ a24 : Nat, ∀ S23 : QS, S23 = q_nS S22 a24 11 200 → (∀ I25 : QI, I25 = q_rw I21 29 (fun _ => 0) → (∀ S26 : QS, S26 = q_sR S23 (q_u2 S23.2.2.2.2 23 7 (some 29)) → (post S26 I25 J))))))))))))))))))))) := h
  refine V_aload_n dX0_init_0 rfl rfl ?_
  refine V_objInit dX0_init_1 ml_RX0_3 ob_in ob_co (Nat.le_of_ble_eq_true rfl) ?_
  refine V_aload_n dX0_init_4 rfl rfl ?_
  refine V_aload_n dX0_init_5 rfl rfl ?_
  refine V_putF dX0_init_6 fl_RX0_9 rfl rfl rfl (by rw [hN]; decide) hK23 rfl (fun _ => rfl) (fun _ => rfl) ?_
  refine V_memS (fun S1 e_S1 => ?_)
  replace h := h S1 e_S1
  have hN9 : S1.2.1 = 24 := by rw [e_S1]; exact hN
  have hc9 : q_cl S1 := by rw [e_S1]; exact q_cl_put hc (by rw [hN]; decide)
  have hE9 : Ex S S1 := by rw [e_S1]; exact hE.tr (Ex.put _ _)
  have hR9 : q_Rk 23 S S1 := by rw [e_S1]; exact hR.put (Or.inl rfl)
  have hK239 : S1.2.2.1 23 = 0 := by rw [e_S1]; exact hK23
  clear hc hE hR hK23  
  have hN := hN9
  have hc := hc9
  have hE := hE9
  have hR := hR9
  have hK23 := hK239
  refine V_aload_n dX0_init_9 rfl rfl ?_
  refine V_aload_n dX0_init_10 rfl rfl ?_
  refine V_putF dX0_init_11 fl_RX0_15 rfl rfl rfl (by rw [hN]; decide) hK23 rfl (fun _ => rfl) (fun _ => rfl) ?_
  refine V_memS (fun S2 e_S2 => ?_)
  replace h := h S2 e_S2
  have hN9 : S2.2.1 = 24 := by rw [e_S2]; exact hN
  have hc9 : q_cl S2 := by rw [e_S2]; exact q_cl_put hc (by rw [hN]; decide)
  have hE9 : Ex S S2 := by rw [e_S2]; exact hE.tr (Ex.put _ _)
  have hR9 : q_Rk 23 S S2 := by rw [e_S2]; exact hR.put (Or.inl rfl)
  have hK239 : S2.2.2.1 23 = 0 := by rw [e_S2]; exact hK23
  clear hc hE hR hK23  
  have hN := hN9
  have hc := hc9
  have hE := hE9
  have hR := hR9
  have hK23 := hK239
  refine V_aload_n dX0_init_14 rfl rfl ?_
  refine V_sipush (v := 28800) dX0_init_15 (by decide) ?_
  refine V_newI (z := 28800) dX0_init_18 ac_int (by decide) (by decide) (by decide) (by rw [hN]; decide) hc (q_vbn hN rfl) (q_vbn hN rfl) (by decide) (by decide) (fun a4 => ?_)
  rw [hN]
  refine V_memS (fun S3 e_S3 => ?_)
  refine V_memI (fun I5 e_I5 => ?_)
  replace h := h a4 S3 e_S3 I5 e_I5
  have hM9 := hN
  have hN9 : S3.2.1 = 25 := by rw [e_S3]; show _ + 1 = 25; rw [hN]
  have hc9 : q_cl S3 := by rw [e_S3]; exact q_cl_new hc _ _ _
  have hE9 : Ex S S3 := by rw [e_S3]; exact hE.tr (Ex.new _ (by rw [hN]; decide) _ _ _)
  have hR9 : q_Rk 23 S S3 := by rw [e_S3]; exact hR.new hE.1 _ _ _
  have hK239 : S3.2.2.1 23 = 0 := by rw [e_S3]; exact (if_neg (by rw [hN]; decide)).trans hK23
  clear hc hE hR hK23  
  have hN := hN9
  have hc := hc9
  have hE := hE9
  have hR := hR9
  have hK23 := hK239
  clear hM9
  refine V_putF dX0_init_20 fl_RX0_19 rfl rfl rfl (by rw [hN]; decide) hK23 rfl (fun _ => rfl) (fun _ => rfl) ?_
  refine V_memS (fun S6 e_S6 => ?_)
  replace h := h S6 e_S6
  have hN9 : S6.2.1 = 25 := by rw [e_S6]; exact hN
  have hc9 : q_cl S6 := by rw [e_S6]; exact q_cl_put hc (by rw [hN]; decide)
  have hE9 : Ex S S6 := by rw [e_S6]; exact hE.tr (Ex.put _ _)
  have hR9 : q_Rk 23 S S6 := by rw [e_S6]; exact hR.put (Or.inl rfl)
  have hK239 : S6.2.2.1 23 = 0 := by rw [e_S6]; exact hK23
  clear hc hE hR hK23  
  have hN := hN9
  have hc := hc9
  have hE := hE9
  have hR := hR9
  have hK23 := hK239
  refine V_aload_n dX0_init_23 rfl rfl ?_
  refine V_bipush (v := 24) dX0_init_24 (by decide) ?_
  refine V_newI (z := 24) dX0_init_26 ac_int (by decide) (by decide) (by decide) (by rw [hN]; decide) hc (q_vbn hN rfl) (q_vbn hN rfl) (by decide) (by decide) (fun a8 => ?_)
  rw [hN]
  refine V_memS (fun S7 e_S7 => ?_)
  refine V_memI (fun I9 e_I9 => ?_)
  replace h := h a8 S7 e_S7 I9 e_I9
  have hM9 := hN
  have hN9 : S7.2.1 = 26 := by rw [e_S7]; show _ + 1 = 26; rw [hN]
  have hc9 : q_cl S7 := by rw [e_S7]; exact q_cl_new hc _ _ _
  have hE9 : Ex S S7 := by rw [e_S7]; exact hE.tr (Ex.new _ (by rw [hN]; decide) _ _ _)
  have hR9 : q_Rk 23 S S7 := by rw [e_S7]; exact hR.new hE.1 _ _ _
  have hK239 : S7.2.2.1 23 = 0 := by rw [e_S7]; exact (if_neg (by rw [hN]; decide)).trans hK23
  clear hc hE hR hK23  
  have hN := hN9
  have hc := hc9
  have hE := hE9
  have hR := hR9
  have hK23 := hK239
  clear hM9
  refine V_putF dX0_init_28 fl_RX0_23 rfl rfl rfl (by rw [hN]; decide) hK23 rfl (fun _ => rfl) (fun _ => rfl) ?_
  refine V_memS (fun S10 e_S10 => ?_)
  replace h := h S10 e_S10
  have hN9 : S10.2.1 = 26 := by rw [e_S10]; exact hN
  have hc9 : q_cl S10 := by rw [e_S10]; exact q_cl_put hc (by rw [hN]; decide)
  have hE9 : Ex S S10 := by rw [e_S10]; exact hE.tr (Ex.put _ _)
  have hR9 : q_Rk 23 S S10 := by rw [e_S10]; exact hR.put (Or.inl rfl)
  have hK239 : S10.2.2.1 23 = 0 := by rw [e_S10]; exact hK23
  clear hc hE hR hK23  
  have hN := hN9
  have hc := hc9
  have hE := hE9
  have hR := hR9
  have hK23 := hK239
  refine V_aload_n dX0_init_31 rfl rfl ?_
  refine V_bipush (v := 24) dX0_init_32 (by decide) ?_
  refine V_newI (z := 24) dX0_init_34 ac_int (by decide) (by decide) (by decide) (by rw [hN]; decide) hc (q_vbn hN rfl) (q_vbn hN rfl) (by decide) (by decide) (fun a12 => ?_)
  rw [hN]
  refine V_memS (fun S11 e_S11 => ?_)
  refine V_memI (fun I13 e_I13 => ?_)
  replace h := h a12 S11 e_S11 I13 e_I13
  have hM9 := hN
  have hN9 : S11.2.1 = 27 := by rw [e_S11]; show _ + 1 = 27; rw [hN]
  have hc9 : q_cl S11 := by rw [e_S11]; exact q_cl_new hc _ _ _
  have hE9 : Ex S S11 := by rw [e_S11]; exact hE.tr (Ex.new _ (by rw [hN]; decide) _ _ _)
  have hR9 : q_Rk 23 S S11 := by rw [e_S11]; exact hR.new hE.1 _ _ _
  have hK239 : S11.2.2.1 23 = 0 := by rw [e_S11]; exact (if_neg (by rw [hN]; decide)).trans hK23
  clear hc hE hR hK23  
  have hN := hN9
  have hc := hc9
  have hE := hE9
  have hR := hR9
  have hK23 := hK239
  clear hM9
  refine V_putF dX0_init_36 fl_RX0_26 rfl rfl rfl (by rw [hN]; decide) hK23 rfl (fun _ => rfl) (fun _ => rfl) ?_
  refine V_memS (fun S14 e_S14 => ?_)
  replace h := h S14 e_S14
  have hN9 : S14.2.1 = 27 := by rw [e_S14]; exact hN
  have hc9 : q_cl S14 := by rw [e_S14]; exact q_cl_put hc (by rw [hN]; decide)
  have hE9 : Ex S S14 := by rw [e_S14]; exact hE.tr (Ex.put _ _)
  have hR9 : q_Rk 23 S S14 := by rw [e_S14]; exact hR.put (Or.inl rfl)
  have hK239 : S14.2.2.1 23 = 0 := by rw [e_S14]; exact hK23
  clear hc hE hR hK23  
  have hN := hN9
  have hc := hc9
  have hE := hE9
  have hR := hR9
  have hK23 := hK239
  refine V_aload_n dX0_init_39 rfl rfl ?_
  refine V_bipush (v := 24) dX0_init_40 (by decide) ?_
  refine V_newI (z := 24) dX0_init_42 ac_int (by decide) (by decide) (by decide) (by rw [hN]; decide) hc (q_vbn hN rfl) (q_vbn hN rfl) (by decide) (by decide) (fun a16 => ?_)
  rw [hN]
  refine V_memS (fun S15 e_S15 => ?_)
  refine V_memI (fun I17 e_I17 => ?_)
  replace h := h a16 S15 e_S15 I17 e_I17
  have hM9 := hN
  have hN9 : S15.2.1 = 28 := by rw [e_S15]; show _ + 1 = 28; rw [hN]
  have hc9 : q_cl S15 := by rw [e_S15]; exact q_cl_new hc _ _ _
  have hE9 : Ex S S15 := by rw [e_S15]; exact hE.tr (Ex.new _ (by rw [hN]; decide) _ _ _)
  have hR9 : q_Rk 23 S S15 := by rw [e_S15]; exact hR.new hE.1 _ _ _
  have hK239 : S15.2.2.1 23 = 0 := by rw [e_S15]; exact (if_neg (by rw [hN]; decide)).trans hK23
  clear hc hE hR hK23  
  have hN := hN9
  have hc := hc9
  have hE := hE9
  have hR := hR9
  have hK23 := hK239
  clear hM9
  refine V_putF dX0_init_44 fl_RX0_29 rfl rfl rfl (by rw [hN]; decide) hK23 rfl (fun _ => rfl) (fun _ => rfl) ?_
  refine V_memS (fun S18 e_S18 => ?_)
  replace h := h S18 e_S18
  have hN9 : S18.2.1 = 28 := by rw [e_S18]; exact hN
  have hc9 : q_cl S18 := by rw [e_S18]; exact q_cl_put hc (by rw [hN]; decide)
  have hE9 : Ex S S18 := by rw [e_S18]; exact hE.tr (Ex.put _ _)
  have hR9 : q_Rk 23 S S18 := by rw [e_S18]; exact hR.put (Or.inl rfl)
  have hK239 : S18.2.2.1 23 = 0 := by rw [e_S18]; exact hK23
  clear hc hE hR hK23  
  have hN := hN9
  have hc := hc9
  have hE := hE9
  have hR := hR9
  have hK23 := hK239
  refine V_aload_n dX0_init_47 rfl rfl ?_
  refine V_bipush (v := 24) dX0_init_48 (by decide) ?_
  refine V_newZ (z := 24) dX0_init_50 ac_boolean (by decide) (by decide) (by decide) (by rw [hN]; decide) hc (q_vbn hN rfl) (q_vbn hN rfl) (by decide) (by decide) (fun a20 => ?_)
  rw [hN]
  refine V_memS (fun S19 e_S19 => ?_)
  refine V_memI (fun I21 e_I21 => ?_)
  replace h := h a20 S19 e_S19 I21 e_I21
  have hM9 := hN
  have hN9 : S19.2.1 = 29 := by rw [e_S19]; show _ + 1 = 29; rw [hN]
  have hc9 : q_cl S19 := by rw [e_S19]; exact q_cl_new hc _ _ _
  have hE9 : Ex S S19 := by rw [e_S19]; exact hE.tr (Ex.new _ (by rw [hN]; decide) _ _ _)
  have hR9 : q_Rk 23 S S19 := by rw [e_S19]; exact hR.new hE.1 _ _ _
  have hK239 : S19.2.2.1 23 = 0 := by rw [e_S19]; exact (if_neg (by rw [hN]; decide)).trans hK23
  clear hc hE hR hK23  
  have hN := hN9
  have hc := hc9
  have hE := hE9
  have hR := hR9
  have hK23 := hK239
  clear hM9
  refine V_putF dX0_init_52 fl_RX0_32 rfl rfl rfl (by rw [hN]; decide) hK23 rfl (fun _ => rfl) (fun _ => rfl) ?_
  refine V_memS (fun S22 e_S22 => ?_)
  replace h := h S22 e_S22
  have hN9 : S22.2.1 = 29 := by rw [e_S22]; exact hN
  have hc9 : q_cl S22 := by rw [e_S22]; exact q_cl_put hc (by rw [hN]; decide)
  have hE9 : Ex S S22 := by rw [e_S22]; exact hE.tr (Ex.put _ _)
  have hR9 : q_Rk 23 S S22 := by rw [e_S22]; exact hR.put (Or.inl rfl)
  have hK239 : S22.2.2.1 23 = 0 := by rw [e_S22]; exact hK23
  clear hc hE hR hK23  
  have hN := hN9
  have hc := hc9
  have hE := hE9
  have hR := hR9
  have hK23 := hK239
  refine V_aload_n dX0_init_55 rfl rfl ?_
  refine V_sipush (v := 200) dX0_init_56 (by decide) ?_
  refine V_newZ (z := 200) dX0_init_59 ac_boolean (by decide) (by decide) (by decide) (by rw [hN]; decide) hc (q_vbn hN rfl) (q_vbn hN rfl) (by decide) (by decide) (fun a24 => ?_)
  rw [hN]
  refine V_memS (fun S23 e_S23 => ?_)
  refine V_memI (fun I25 e_I25 => ?_)
  replace h := h a24 S23 e_S23 I25 e_I25
  have hM9 := hN
  have hN9 : S23.2.1 = 30 := by rw [e_S23]; show _ + 1 = 30; rw [hN]
  have hc9 : q_cl S23 := by rw [e_S23]; exact q_cl_new hc _ _ _
  have hE9 : Ex S S23 := by rw [e_S23]; exact hE.tr (Ex.new _ (by rw [hN]; decide) _ _ _)
  have hR9 : q_Rk 23 S S23 := by rw [e_S23]; exact hR.new hE.1 _ _ _
  have hK239 : S23.2.2.1 23 = 0 := by rw [e_S23]; exact (if_neg (by rw [hN]; decide)).trans hK23
  clear hc hE hR hK23  
  have hN := hN9
  have hc := hc9
  have hE := hE9
  have hR := hR9
  have hK23 := hK239
  clear hM9
  refine V_putF dX0_init_61 fl_RX0_36 rfl rfl rfl (by rw [hN]; decide) hK23 rfl (fun _ => rfl) (fun _ => rfl) ?_
  refine V_memS (fun S26 e_S26 => ?_)
  replace h := h S26 e_S26
  have hN9 : S26.2.1 = 30 := by rw [e_S26]; exact hN
  have hc9 : q_cl S26 := by rw [e_S26]; exact q_cl_put hc (by rw [hN]; decide)
  have hE9 : Ex S S26 := by rw [e_S26]; exact hE.tr (Ex.put _ _)
  have hR9 : q_Rk 23 S S26 := by rw [e_S26]; exact hR.put (Or.inl rfl)
  have hK239 : S26.2.2.1 23 = 0 := by rw [e_S26]; exact hK23
  clear hc hE hR hK23  
  have hN := hN9
  have hc := hc9
  have hE := hE9
  have hR := hR9
  have hK23 := hK239
  exact V_vret dX0_init_64 rfl (by decide) (by decide) ⟨rfl, hE, hc, by rw [hN, hN0], hR, h⟩
def w_X3_init_at30 (S : QS) (I : QI) (J : QJ) (post : QS → QI → QJ → Prop) : Prop := (∀ S1 : QS, S1 = q_sR S (q_u2 S.2.2.2.2 30 0 (some 15)) → (∀ a3 : Nat, ∀ S2 : QS, S2 = q_nS S1 a3 9 600 → (∀ I4 : QI, I4 = q_rw I 31 (fun _ => 0) → (∀ S5 : QS, S5 = q_sR S2 (q_u2 S2.2.2.2.2 30 1 (some 31)) → (∀ a7 : Nat, ∀ S6 : QS, S6 = q_nS S5 a7 9 25 → (∀ I8 : QI, I8 = q_rw I4 32 (fun _ => 0) → (∀ S9 : QS, S9 = q_sR S6 (q_u2 S6.2.2.2.2 30 2 (some 32)) → (∀ a11 : Nat, ∀ S10 : QS, S10 = q_nS S9 a11 9 256 → (∀ I12 : QI, I12 = q_rw I8 33 (fun _ => 0) → (∀ S13 : QS, S13 = q_sR S10 (q_u2 S10.2.2.2.2 30 3 (some 33)) → (∀ a15 : Nat, ∀ S14 : QS, S14 = q_nS S13 a15 9 256 → (∀ I16 : QI, I16 = q_rw I12 34 (fun _ => 0) → (∀ S17 : QS, S17 = q_sR S14 (q_u2 S14.2.2.2.2 30 4 (some 34)) → (∀ a19 : Nat, ∀ S18 : QS, S18 = q_nS S17 a19 9 6144 → (∀ I20 : QI, I20 = q_rw I16 35 (fun _ => 0) → (∀ S21 : QS, S21 = q_sR S18 (q_u2 S18.2.2.2.2 30 5 (some 35)) → (∀ a23 : Nat, ∀ S22 : QS, S22 = q_nS S21 a23 9 256 → (∀ I24 : QI, I24 = q_rw I20 36 (fun _ => 0) → (∀ S25 : QS, S25 = q_sR S22 (q_u2 S22.2.2.2.2 30 6 (some 36)) → (post S25 I24 J))))))))))))))))))))
set_option maxRecDepth 100000 in
set_option maxHeartbeats 4000000 in
theorem s_X3_init_at30 {X : QX} {S : QS} {I : QI} {J : QJ} {post : QS → QI → QJ → Prop} (hN : S.2.1 = 31) (hc : q_cl S) (hK30 : S.2.2.1 30 = 3) (h : w_X3_init_at30 S I J post) : CX X mX3_init 1 6 7537 [.ref 30, .ref 15] S I J (q_Pk 30 S 6 post) := by
  have hN0 := hN
  have hE : Ex S S := Ex.rf
  have hR : q_Rk 30 S S := q_Rk.rf
  refine CX.of (lo := [(0, .ref 30), (1, .ref 15)]) ok_mX3_init rfl (Nat.le_of_ble_eq_true rfl) rfl ?_
  replace h : (∀ S1 : QS, S1 = q_sR S (q_u2 S.2.2.2.2 30 0 (some 15)) → (∀ a3 : Nat, ∀ S2 : QS, S2 = q_nS S1 a3 9 600 → (∀ I4 : QI, I4 = q_rw I 31 (fun _ => 0) → (∀ S5 : QS, S5 = q_sR S2 (q_u2 S2.2.2.2.2 30 1 (some 31)) → (∀ a7 : Nat, ∀ S6 : QS, S6 = q_nS S5 a7 9 25 → (∀ I8 : QI, I8 = q_rw I4 32 (fun _ => 0) → (∀ S9 : QS, S9 = q_sR S6 (q_u2 S6.2.2.2.2 30 2 (some 32)) → (∀ a11 : Nat, ∀ S10 : QS, S10 = q_nS S9 a11 9 256 → (∀ I12 : QI, I12 = q_rw I8 33 (fun _ => 0) → (∀ S13 : QS, S13 = q_sR S10 (q_u2 S10.2.2.2.2 30 3 (some 33)) → (∀ a15 : Nat, ∀ S14 : QS, S14 = q_nS S13 a15 9 256 → (∀ I16 : QI, I16 = q_rw I12 34 (fun _ => 0) → (∀ S17 : QS, S17 = q_sR S14 (q_u2 S14.2.2.2.2 30 4 (some 34)) → (∀ a19 : Nat, ∀ S18 : QS, S18 = q_nS S17 a19 9 6144 → (∀ I20 : QI, I20 = q_rw I16 35 (fun _ => 0) → (∀ S21 : QS, S21 = q_sR S18 (q_u2 S18.2.2.2.2 30 5 (some 35)) → (∀ a23 : Nat, ∀ S22 : QS, S22 = q_nS S21 a23 9 256 → (∀ I24 : QI, I24 = q_rw I20 36 (fun _ => 0) → (∀ S25 : QS, S25 = q_sR S22 (q_u2 S22.2.2.2.2 30 6 (some 36)) → (post S25 I24 J)))))))))))))))))))) := h
  refine V_aload_n dX3_init_0 rfl rfl ?_
  refine V_objInit dX3_init_1 ml_RX3_5 ob_in ob_co (Nat.le_of_ble_eq_true rfl) ?_
  refine V_aload_n dX3_init_4 rfl rfl ?_
  refine V_aload_n dX3_init_5 rfl rfl ?_
  refine V_putF dX3_init_6 fl_RX3_11 rfl rfl rfl (by rw [hN]; decide) hK30 rfl (fun _ => rfl) (fun _ => rfl) ?_
  refine V_memS (fun S1 e_S1 => ?_)
  replace h := h S1 e_S1
  have hN9 : S1.2.1 = 31 := by rw [e_S1]; exact hN
  have hc9 : q_cl S1 := by rw [e_S1]; exact q_cl_put hc (by rw [hN]; decide)
  have hE9 : Ex S S1 := by rw [e_S1]; exact hE.tr (Ex.put _ _)
  have hR9 : q_Rk 30 S S1 := by rw [e_S1]; exact hR.put (Or.inl rfl)
  have hK309 : S1.2.2.1 30 = 3 := by rw [e_S1]; exact hK30
  clear hc hE hR hK30  
  have hN := hN9
  have hc := hc9
  have hE := hE9
  have hR := hR9
  have hK30 := hK309
  refine V_aload_n dX3_init_9 rfl rfl ?_
  refine V_sipush (v := 600) dX3_init_10 (by decide) ?_
  refine V_newI (z := 600) dX3_init_13 ac_int (by decide) (by decide) (by decide) (by rw [hN]; decide) hc (q_vbn hN rfl) (q_vbn hN rfl) (by decide) (by decide) (fun a3 => ?_)
  rw [hN]
  refine V_memS (fun S2 e_S2 => ?_)
  refine V_memI (fun I4 e_I4 => ?_)
  replace h := h a3 S2 e_S2 I4 e_I4
  have hM9 := hN
  have hN9 : S2.2.1 = 32 := by rw [e_S2]; show _ + 1 = 32; rw [hN]
  have hc9 : q_cl S2 := by rw [e_S2]; exact q_cl_new hc _ _ _
  have hE9 : Ex S S2 := by rw [e_S2]; exact hE.tr (Ex.new _ (by rw [hN]; decide) _ _ _)
  have hR9 : q_Rk 30 S S2 := by rw [e_S2]; exact hR.new hE.1 _ _ _
  have hK309 : S2.2.2.1 30 = 3 := by rw [e_S2]; exact (if_neg (by rw [hN]; decide)).trans hK30
  clear hc hE hR hK30  
  have hN := hN9
  have hc := hc9
  have hE := hE9
  have hR := hR9
  have hK30 := hK309
  clear hM9
  refine V_putF dX3_init_15 fl_RX3_15 rfl rfl rfl (by rw [hN]; decide) hK30 rfl (fun _ => rfl) (fun _ => rfl) ?_
  refine V_memS (fun S5 e_S5 => ?_)
  replace h := h S5 e_S5
  have hN9 : S5.2.1 = 32 := by rw [e_S5]; exact hN
  have hc9 : q_cl S5 := by rw [e_S5]; exact q_cl_put hc (by rw [hN]; decide)
  have hE9 : Ex S S5 := by rw [e_S5]; exact hE.tr (Ex.put _ _)
  have hR9 : q_Rk 30 S S5 := by rw [e_S5]; exact hR.put (Or.inl rfl)
  have hK309 : S5.2.2.1 30 = 3 := by rw [e_S5]; exact hK30
  clear hc hE hR hK30  
  have hN := hN9
  have hc := hc9
  have hE := hE9
  have hR := hR9
  have hK30 := hK309
  refine V_aload_n dX3_init_18 rfl rfl ?_
  refine V_bipush (v := 25) dX3_init_19 (by decide) ?_
  refine V_newI (z := 25) dX3_init_21 ac_int (by decide) (by decide) (by decide) (by rw [hN]; decide) hc (q_vbn hN rfl) (q_vbn hN rfl) (by decide) (by decide) (fun a7 => ?_)
  rw [hN]
  refine V_memS (fun S6 e_S6 => ?_)
  refine V_memI (fun I8 e_I8 => ?_)
  replace h := h a7 S6 e_S6 I8 e_I8
  have hM9 := hN
  have hN9 : S6.2.1 = 33 := by rw [e_S6]; show _ + 1 = 33; rw [hN]
  have hc9 : q_cl S6 := by rw [e_S6]; exact q_cl_new hc _ _ _
  have hE9 : Ex S S6 := by rw [e_S6]; exact hE.tr (Ex.new _ (by rw [hN]; decide) _ _ _)
  have hR9 : q_Rk 30 S S6 := by rw [e_S6]; exact hR.new hE.1 _ _ _
  have hK309 : S6.2.2.1 30 = 3 := by rw [e_S6]; exact (if_neg (by rw [hN]; decide)).trans hK30
  clear hc hE hR hK30  
  have hN := hN9
  have hc := hc9
  have hE := hE9
  have hR := hR9
  have hK30 := hK309
  clear hM9
  refine V_putF dX3_init_23 fl_RX3_19 rfl rfl rfl (by rw [hN]; decide) hK30 rfl (fun _ => rfl) (fun _ => rfl) ?_
  refine V_memS (fun S9 e_S9 => ?_)
  replace h := h S9 e_S9
  have hN9 : S9.2.1 = 33 := by rw [e_S9]; exact hN
  have hc9 : q_cl S9 := by rw [e_S9]; exact q_cl_put hc (by rw [hN]; decide)
  have hE9 : Ex S S9 := by rw [e_S9]; exact hE.tr (Ex.put _ _)
  have hR9 : q_Rk 30 S S9 := by rw [e_S9]; exact hR.put (Or.inl rfl)
  have hK309 : S9.2.2.1 30 = 3 := by rw [e_S9]; exact hK30
  clear hc hE hR hK30  
  have hN := hN9
  have hc := hc9
  have hE := hE9
  have hR := hR9
  have hK30 := hK309
  refine V_aload_n dX3_init_26 rfl rfl ?_
  refine V_sipush (v := 256) dX3_init_27 (by decide) ?_
  refine V_newI (z := 256) dX3_init_30 ac_int (by decide) (by decide) (by decide) (by rw [hN]; decide) hc (q_vbn hN rfl) (q_vbn hN rfl) (by decide) (by decide) (fun a11 => ?_)
  rw [hN]
  refine V_memS (fun S10 e_S10 => ?_)
  refine V_memI (fun I12 e_I12 => ?_)
  replace h := h a11 S10 e_S10 I12 e_I12
  have hM9 := hN
  have hN9 : S10.2.1 = 34 := by rw [e_S10]; show _ + 1 = 34; rw [hN]
  have hc9 : q_cl S10 := by rw [e_S10]; exact q_cl_new hc _ _ _
  have hE9 : Ex S S10 := by rw [e_S10]; exact hE.tr (Ex.new _ (by rw [hN]; decide) _ _ _)
  have hR9 : q_Rk 30 S S10 := by rw [e_S10]; exact hR.new hE.1 _ _ _
  have hK309 : S10.2.2.1 30 = 3 := by rw [e_S10]; exact (if_neg (by rw [hN]; decide)).trans hK30
  clear hc hE hR hK30  
  have hN := hN9
  have hc := hc9
  have hE := hE9
  have hR := hR9
  have hK30 := hK309
  clear hM9
  refine V_putF dX3_init_32 fl_RX3_22 rfl rfl rfl (by rw [hN]; decide) hK30 rfl (fun _ => rfl) (fun _ => rfl) ?_
  refine V_memS (fun S13 e_S13 => ?_)
  replace h := h S13 e_S13
  have hN9 : S13.2.1 = 34 := by rw [e_S13]; exact hN
  have hc9 : q_cl S13 := by rw [e_S13]; exact q_cl_put hc (by rw [hN]; decide)
  have hE9 : Ex S S13 := by rw [e_S13]; exact hE.tr (Ex.put _ _)
  have hR9 : q_Rk 30 S S13 := by rw [e_S13]; exact hR.put (Or.inl rfl)
  have hK309 : S13.2.2.1 30 = 3 := by rw [e_S13]; exact hK30
  clear hc hE hR hK30  
  have hN := hN9
  have hc := hc9
  have hE := hE9
  have hR := hR9
  have hK30 := hK309
  refine V_aload_n dX3_init_35 rfl rfl ?_
  refine V_sipush (v := 256) dX3_init_36 (by decide) ?_
  refine V_newI (z := 256) dX3_init_39 ac_int (by decide) (by decide) (by decide) (by rw [hN]; decide) hc (q_vbn hN rfl) (q_vbn hN rfl) (by decide) (by decide) (fun a15 => ?_)
  rw [hN]
  refine V_memS (fun S14 e_S14 => ?_)
  refine V_memI (fun I16 e_I16 => ?_)
  replace h := h a15 S14 e_S14 I16 e_I16
  have hM9 := hN
  have hN9 : S14.2.1 = 35 := by rw [e_S14]; show _ + 1 = 35; rw [hN]
  have hc9 : q_cl S14 := by rw [e_S14]; exact q_cl_new hc _ _ _
  have hE9 : Ex S S14 := by rw [e_S14]; exact hE.tr (Ex.new _ (by rw [hN]; decide) _ _ _)
  have hR9 : q_Rk 30 S S14 := by rw [e_S14]; exact hR.new hE.1 _ _ _
  have hK309 : S14.2.2.1 30 = 3 := by rw [e_S14]; exact (if_neg (by rw [hN]; decide)).trans hK30
  clear hc hE hR hK30  
  have hN := hN9
  have hc := hc9
  have hE := hE9
  have hR := hR9
  have hK30 := hK309
  clear hM9
  refine V_putF dX3_init_41 fl_RX3_25 rfl rfl rfl (by rw [hN]; decide) hK30 rfl (fun _ => rfl) (fun _ => rfl) ?_
  refine V_memS (fun S17 e_S17 => ?_)
  replace h := h S17 e_S17
  have hN9 : S17.2.1 = 35 := by rw [e_S17]; exact hN
  have hc9 : q_cl S17 := by rw [e_S17]; exact q_cl_put hc (by rw [hN]; decide)
  have hE9 : Ex S S17 := by rw [e_S17]; exact hE.tr (Ex.put _ _)
  have hR9 : q_Rk 30 S S17 := by rw [e_S17]; exact hR.put (Or.inl rfl)
  have hK309 : S17.2.2.1 30 = 3 := by rw [e_S17]; exact hK30
  clear hc hE hR hK30  
  have hN := hN9
  have hc := hc9
  have hE := hE9
  have hR := hR9
  have hK30 := hK309
  refine V_aload_n dX3_init_44 rfl rfl ?_
  refine V_sipush (v := 6144) dX3_init_45 (by decide) ?_
  refine V_newI (z := 6144) dX3_init_48 ac_int (by decide) (by decide) (by decide) (by rw [hN]; decide) hc (q_vbn hN rfl) (q_vbn hN rfl) (by decide) (by decide) (fun a19 => ?_)
  rw [hN]
  refine V_memS (fun S18 e_S18 => ?_)
  refine V_memI (fun I20 e_I20 => ?_)
  replace h := h a19 S18 e_S18 I20 e_I20
  have hM9 := hN
  have hN9 : S18.2.1 = 36 := by rw [e_S18]; show _ + 1 = 36; rw [hN]
  have hc9 : q_cl S18 := by rw [e_S18]; exact q_cl_new hc _ _ _
  have hE9 : Ex S S18 := by rw [e_S18]; exact hE.tr (Ex.new _ (by rw [hN]; decide) _ _ _)
  have hR9 : q_Rk 30 S S18 := by rw [e_S18]; exact hR.new hE.1 _ _ _
  have hK309 : S18.2.2.1 30 = 3 := by rw [e_S18]; exact (if_neg (by rw [hN]; decide)).trans hK30
  clear hc hE hR hK30  
  have hN := hN9
  have hc := hc9
  have hE := hE9
  have hR := hR9
  have hK30 := hK309
  clear hM9
  refine V_putF dX3_init_50 fl_RX3_28 rfl rfl rfl (by rw [hN]; decide) hK30 rfl (fun _ => rfl) (fun _ => rfl) ?_
  refine V_memS (fun S21 e_S21 => ?_)
  replace h := h S21 e_S21
  have hN9 : S21.2.1 = 36 := by rw [e_S21]; exact hN
  have hc9 : q_cl S21 := by rw [e_S21]; exact q_cl_put hc (by rw [hN]; decide)
  have hE9 : Ex S S21 := by rw [e_S21]; exact hE.tr (Ex.put _ _)
  have hR9 : q_Rk 30 S S21 := by rw [e_S21]; exact hR.put (Or.inl rfl)
  have hK309 : S21.2.2.1 30 = 3 := by rw [e_S21]; exact hK30
  clear hc hE hR hK30  
  have hN := hN9
  have hc := hc9
  have hE := hE9
  have hR := hR9
  have hK30 := hK309
  refine V_aload_n dX3_init_53 rfl rfl ?_
  refine V_sipush (v := 256) dX3_init_54 (by decide) ?_
  refine V_newI (z := 256) dX3_init_57 ac_int (by decide) (by decide) (by decide) (by rw [hN]; decide) hc (q_vbn hN rfl) (q_vbn hN rfl) (by decide) (by decide) (fun a23 => ?_)
  rw [hN]
  refine V_memS (fun S22 e_S22 => ?_)
  refine V_memI (fun I24 e_I24 => ?_)
  replace h := h a23 S22 e_S22 I24 e_I24
  have hM9 := hN
  have hN9 : S22.2.1 = 37 := by rw [e_S22]; show _ + 1 = 37; rw [hN]
  have hc9 : q_cl S22 := by rw [e_S22]; exact q_cl_new hc _ _ _
  have hE9 : Ex S S22 := by rw [e_S22]; exact hE.tr (Ex.new _ (by rw [hN]; decide) _ _ _)
  have hR9 : q_Rk 30 S S22 := by rw [e_S22]; exact hR.new hE.1 _ _ _
  have hK309 : S22.2.2.1 30 = 3 := by rw [e_S22]; exact (if_neg (by rw [hN]; decide)).trans hK30
  clear hc hE hR hK30  
  have hN := hN9
  have hc := hc9
  have hE := hE9
  have hR := hR9
  have hK30 := hK309
  clear hM9
  refine V_putF dX3_init_59 fl_RX3_31 rfl rfl rfl (by rw [hN]; decide) hK30 rfl (fun _ => rfl) (fun _ => rfl) ?_
  refine V_memS (fun S25 e_S25 => ?_)
  replace h := h S25 e_S25
  have hN9 : S25.2.1 = 37 := by rw [e_S25]; exact hN
  have hc9 : q_cl S25 := by rw [e_S25]; exact q_cl_put hc (by rw [hN]; decide)
  have hE9 : Ex S S25 := by rw [e_S25]; exact hE.tr (Ex.put _ _)
  have hR9 : q_Rk 30 S S25 := by rw [e_S25]; exact hR.put (Or.inl rfl)
  have hK309 : S25.2.2.1 30 = 3 := by rw [e_S25]; exact hK30
  clear hc hE hR hK30  
  have hN := hN9
  have hc := hc9
  have hE := hE9
  have hR := hR9
  have hK30 := hK309
  exact V_vret dX3_init_62 rfl (by decide) (by decide) ⟨rfl, hE, hc, by rw [hN, hN0], hR, h⟩
def w_X1_init_at37 (S : QS) (I : QI) (J : QJ) (post : QS → QI → QJ → Prop) : Prop := (∀ S1 : QS, S1 = q_sR S (q_u2 S.2.2.2.2 37 0 (some 1)) → (∀ a3 : Nat, ∀ S2 : QS, S2 = q_nS S1 a3 9 6 → (∀ I4 : QI, I4 = q_rw I 38 (fun _ => 0) → (∀ S5 : QS, S5 = q_sR S2 (q_u2 S2.2.2.2.2 37 1 (some 38)) → (∀ a7 : Nat, ∀ S6 : QS, S6 = q_nS S5 a7 9 6 → (∀ I8 : QI, I8 = q_rw I4 39 (fun _ => 0) → (∀ S9 : QS, S9 = q_sR S6 (q_u2 S6.2.2.2.2 37 2 (some 39)) → (∀ a11 : Nat, ∀ S10 : QS, S10 = q_nS S9 a11 9 6 → (∀ I12 : QI, I12 = q_rw I8 40 (fun _ => 0) → (∀ S13 : QS, S13 = q_sR S10 (q_u2 S10.2.2.2.2 37 3 (some 40)) → (∀ a15 : Nat, ∀ S14 : QS, S14 = q_nS S13 a15 9 6 → (∀ I16 : QI, I16 = q_rw I12 41 (fun _ => 0) → (∀ S17 : QS, S17 = q_sR S14 (q_u2 S14.2.2.2.2 37 4 (some 41)) → (∀ a19 : Nat, ∀ S18 : QS, S18 = q_nS S17 a19 9 4 → (∀ I20 : QI, I20 = q_rw I16 42 (fun _ => 0) → (∀ S21 : QS, S21 = q_sR S18 (q_u2 S18.2.2.2.2 37 5 (some 42)) → (∀ a23 : Nat, ∀ S22 : QS, S22 = q_nS S21 a23 9 6 → (∀ I24 : QI, I24 = q_rw I20 43 (fun _ => 0) → (∀ S25 : QS, S25 = q_sR S22 (q_u2 S22.2.2.2.2 37 6 (some 43)) → (∀ a27 : Nat, ∀ S26 : QS, S26 = q_nS S25 a27 9 16 → (∀ I28 : QI, I28 = q_rw I24 44 (fun _ => 0) → (∀ S29 : QS, S29 = q_sR S26 (q_u2 S26.2.2.2.2 37 7 (some 44)) → (∀ a31 : Nat, ∀ S30 : QS, S30 = q_nS S29 a31 9 16 → (∀ I32 : QI, I32 = q_rw I28 45 (fun _ => 0) → (∀ S33 : QS, S33 = q_sR S30 (q_u2 S30.2.2.2.2 37 8 (some 45)) → (post S33 I32 J))))))))))))))))))))))))))
set_option maxRecDepth 100000 in
set_option maxHeartbeats 4000000 in
theorem s_X1_init_at37 {X : QX} {S : QS} {I : QI} {J : QJ} {post : QS → QI → QJ → Prop} (hN : S.2.1 = 38) (hc : q_cl S) (hK37 : S.2.2.1 37 = 1) (h : w_X1_init_at37 S I J post) : CX X mX1_init 1 8 66 [.ref 37, .ref 1] S I J (q_Pk 37 S 8 post) := by
  have hN0 := hN
  have hE : Ex S S := Ex.rf
  have hR : q_Rk 37 S S := q_Rk.rf
  refine CX.of (lo := [(0, .ref 37), (1, .ref 1)]) ok_mX1_init rfl (Nat.le_of_ble_eq_true rfl) rfl ?_
  replace h : (∀ S1 : QS, S1 = q_sR S (q_u2 S.2.2.2.2 37 0 (some 1)) → (∀ a3 : Nat, ∀ S2 : QS, S2 = q_nS S1 a3 9 6 → (∀ I4 : QI, I4 = q_rw I 38 (fun _ => 0) → (∀ S5 : QS, S5 = q_sR S2 (q_u2 S2.2.2.2.2 37 1 (some 38)) → (∀ a7 : Nat, ∀ S6 : QS, S6 = q_nS S5 a7 9 6 → (∀ I8 : QI, I8 = q_rw I4 39 (fun _ => 0) → (∀ S9 : QS, S9 = q_sR S6 (q_u2 S6.2.2.2.2 37 2 (some 39)) → (∀ a11 : Nat, ∀ S10 : QS, S10 = q_nS S9 a11 9 6 → (∀ I12 : QI, I12 = q_rw I8 40 (fun _ => 0) → (∀ S13 : QS, S13 = q_sR S10 (q_u2 S10.2.2.2.2 37 3 (some 40)) → (∀ a15 : Nat, ∀ S14 : QS, S14 = q_nS S13 a15 9 6 → (∀ I16 : QI, I16 = q_rw I12 41 (fun _ => 0) → (∀ S17 : QS, S17 = q_sR S14 (q_u2 S14.2.2.2.2 37 4 (some 41)) → (∀ a19 : Nat, ∀ S18 : QS, S18 = q_nS S17 a19 9 4 → (∀ I20 : QI, I20 = q_rw I16 42 (fun _ => 0) → (∀ S21 : QS, S21 = q_sR S18 (q_u2 S18.2.2.2.2 37 5 (some 42)) → (∀ a23 : Nat, ∀ S22 : QS, S22 = q_nS S21 a23 9 6 → (∀ I24 : QI, I24 = q_rw I20 43 (fun _ => 0) → (∀ S25 : QS, S25 = q_sR S22 (q_u2 S22.2.2.2.2 37 6 (some 43)) → (∀ a27 : Nat, ∀ S26 : QS, S26 = q_nS S25 a27 9 16 → (∀ I28 : QI, I28 = q_rw I24 44 (fun _ => 0) → (∀ S29 : QS, S29 = q_sR S26 (q_u2 S26.2.2.2.2 37 7 (some 44)) → (∀ a31 : Nat, ∀ S30 : QS, S30 = q_nS S29 a31 9 16 → (∀ I32 : QI, I32 = q_rw I28 45 (fun _ => 0) → (∀ S33 : QS, S33 = q_sR S30 (q_u2 S30.2.2.2.2 37 8 (some 45)) → (post S33 I32 J)))))))))))))))))))))))))) := h
  refine V_aload_n dX1_init_0 rfl rfl ?_
  refine V_objInit dX1_init_1 ml_RX1_3 ob_in ob_co (Nat.le_of_ble_eq_true rfl) ?_
  refine V_aload_n dX1_init_4 rfl rfl ?_
  refine V_aload_n dX1_init_5 rfl rfl ?_
  refine V_putF dX1_init_6 fl_RX1_9 rfl rfl rfl (by rw [hN]; decide) hK37 rfl (fun _ => rfl) (fun _ => rfl) ?_
  refine V_memS (fun S1 e_S1 => ?_)
  replace h := h S1 e_S1
  have hN9 : S1.2.1 = 38 := by rw [e_S1]; exact hN
  have hc9 : q_cl S1 := by rw [e_S1]; exact q_cl_put hc (by rw [hN]; decide)
  have hE9 : Ex S S1 := by rw [e_S1]; exact hE.tr (Ex.put _ _)
  have hR9 : q_Rk 37 S S1 := by rw [e_S1]; exact hR.put (Or.inl rfl)
  have hK379 : S1.2.2.1 37 = 1 := by rw [e_S1]; exact hK37
  clear hc hE hR hK37  
  have hN := hN9
  have hc := hc9
  have hE := hE9
  have hR := hR9
  have hK37 := hK379
  refine V_aload_n dX1_init_9 rfl rfl ?_
  refine V_bipush (v := 6) dX1_init_10 (by decide) ?_
  refine V_newI (z := 6) dX1_init_12 ac_int (by decide) (by decide) (by decide) (by rw [hN]; decide) hc (q_vbn hN rfl) (q_vbn hN rfl) (by decide) (by decide) (fun a3 => ?_)
  rw [hN]
  refine V_memS (fun S2 e_S2 => ?_)
  refine V_memI (fun I4 e_I4 => ?_)
  replace h := h a3 S2 e_S2 I4 e_I4
  have hM9 := hN
  have hN9 : S2.2.1 = 39 := by rw [e_S2]; show _ + 1 = 39; rw [hN]
  have hc9 : q_cl S2 := by rw [e_S2]; exact q_cl_new hc _ _ _
  have hE9 : Ex S S2 := by rw [e_S2]; exact hE.tr (Ex.new _ (by rw [hN]; decide) _ _ _)
  have hR9 : q_Rk 37 S S2 := by rw [e_S2]; exact hR.new hE.1 _ _ _
  have hK379 : S2.2.2.1 37 = 1 := by rw [e_S2]; exact (if_neg (by rw [hN]; decide)).trans hK37
  clear hc hE hR hK37  
  have hN := hN9
  have hc := hc9
  have hE := hE9
  have hR := hR9
  have hK37 := hK379
  clear hM9
  refine V_putF dX1_init_14 fl_RX1_15 rfl rfl rfl (by rw [hN]; decide) hK37 rfl (fun _ => rfl) (fun _ => rfl) ?_
  refine V_memS (fun S5 e_S5 => ?_)
  replace h := h S5 e_S5
  have hN9 : S5.2.1 = 39 := by rw [e_S5]; exact hN
  have hc9 : q_cl S5 := by rw [e_S5]; exact q_cl_put hc (by rw [hN]; decide)
  have hE9 : Ex S S5 := by rw [e_S5]; exact hE.tr (Ex.put _ _)
  have hR9 : q_Rk 37 S S5 := by rw [e_S5]; exact hR.put (Or.inl rfl)
  have hK379 : S5.2.2.1 37 = 1 := by rw [e_S5]; exact hK37
  clear hc hE hR hK37  
  have hN := hN9
  have hc := hc9
  have hE := hE9
  have hR := hR9
  have hK37 := hK379
  refine V_aload_n dX1_init_17 rfl rfl ?_
  refine V_bipush (v := 6) dX1_init_18 (by decide) ?_
  refine V_newI (z := 6) dX1_init_20 ac_int (by decide) (by decide) (by decide) (by rw [hN]; decide) hc (q_vbn hN rfl) (q_vbn hN rfl) (by decide) (by decide) (fun a7 => ?_)
  rw [hN]
  refine V_memS (fun S6 e_S6 => ?_)
  refine V_memI (fun I8 e_I8 => ?_)
  replace h := h a7 S6 e_S6 I8 e_I8
  have hM9 := hN
  have hN9 : S6.2.1 = 40 := by rw [e_S6]; show _ + 1 = 40; rw [hN]
  have hc9 : q_cl S6 := by rw [e_S6]; exact q_cl_new hc _ _ _
  have hE9 : Ex S S6 := by rw [e_S6]; exact hE.tr (Ex.new _ (by rw [hN]; decide) _ _ _)
  have hR9 : q_Rk 37 S S6 := by rw [e_S6]; exact hR.new hE.1 _ _ _
  have hK379 : S6.2.2.1 37 = 1 := by rw [e_S6]; exact (if_neg (by rw [hN]; decide)).trans hK37
  clear hc hE hR hK37  
  have hN := hN9
  have hc := hc9
  have hE := hE9
  have hR := hR9
  have hK37 := hK379
  clear hM9
  refine V_putF dX1_init_22 fl_RX1_19 rfl rfl rfl (by rw [hN]; decide) hK37 rfl (fun _ => rfl) (fun _ => rfl) ?_
  refine V_memS (fun S9 e_S9 => ?_)
  replace h := h S9 e_S9
  have hN9 : S9.2.1 = 40 := by rw [e_S9]; exact hN
  have hc9 : q_cl S9 := by rw [e_S9]; exact q_cl_put hc (by rw [hN]; decide)
  have hE9 : Ex S S9 := by rw [e_S9]; exact hE.tr (Ex.put _ _)
  have hR9 : q_Rk 37 S S9 := by rw [e_S9]; exact hR.put (Or.inl rfl)
  have hK379 : S9.2.2.1 37 = 1 := by rw [e_S9]; exact hK37
  clear hc hE hR hK37  
  have hN := hN9
  have hc := hc9
  have hE := hE9
  have hR := hR9
  have hK37 := hK379
  refine V_aload_n dX1_init_25 rfl rfl ?_
  refine V_bipush (v := 6) dX1_init_26 (by decide) ?_
  refine V_newI (z := 6) dX1_init_28 ac_int (by decide) (by decide) (by decide) (by rw [hN]; decide) hc (q_vbn hN rfl) (q_vbn hN rfl) (by decide) (by decide) (fun a11 => ?_)
  rw [hN]
  refine V_memS (fun S10 e_S10 => ?_)
  refine V_memI (fun I12 e_I12 => ?_)
  replace h := h a11 S10 e_S10 I12 e_I12
  have hM9 := hN
  have hN9 : S10.2.1 = 41 := by rw [e_S10]; show _ + 1 = 41; rw [hN]
  have hc9 : q_cl S10 := by rw [e_S10]; exact q_cl_new hc _ _ _
  have hE9 : Ex S S10 := by rw [e_S10]; exact hE.tr (Ex.new _ (by rw [hN]; decide) _ _ _)
  have hR9 : q_Rk 37 S S10 := by rw [e_S10]; exact hR.new hE.1 _ _ _
  have hK379 : S10.2.2.1 37 = 1 := by rw [e_S10]; exact (if_neg (by rw [hN]; decide)).trans hK37
  clear hc hE hR hK37  
  have hN := hN9
  have hc := hc9
  have hE := hE9
  have hR := hR9
  have hK37 := hK379
  clear hM9
  refine V_putF dX1_init_30 fl_RX1_22 rfl rfl rfl (by rw [hN]; decide) hK37 rfl (fun _ => rfl) (fun _ => rfl) ?_
  refine V_memS (fun S13 e_S13 => ?_)
  replace h := h S13 e_S13
  have hN9 : S13.2.1 = 41 := by rw [e_S13]; exact hN
  have hc9 : q_cl S13 := by rw [e_S13]; exact q_cl_put hc (by rw [hN]; decide)
  have hE9 : Ex S S13 := by rw [e_S13]; exact hE.tr (Ex.put _ _)
  have hR9 : q_Rk 37 S S13 := by rw [e_S13]; exact hR.put (Or.inl rfl)
  have hK379 : S13.2.2.1 37 = 1 := by rw [e_S13]; exact hK37
  clear hc hE hR hK37  
  have hN := hN9
  have hc := hc9
  have hE := hE9
  have hR := hR9
  have hK37 := hK379
  refine V_aload_n dX1_init_33 rfl rfl ?_
  refine V_bipush (v := 6) dX1_init_34 (by decide) ?_
  refine V_newI (z := 6) dX1_init_36 ac_int (by decide) (by decide) (by decide) (by rw [hN]; decide) hc (q_vbn hN rfl) (q_vbn hN rfl) (by decide) (by decide) (fun a15 => ?_)
  rw [hN]
  refine V_memS (fun S14 e_S14 => ?_)
  refine V_memI (fun I16 e_I16 => ?_)
  replace h := h a15 S14 e_S14 I16 e_I16
  have hM9 := hN
  have hN9 : S14.2.1 = 42 := by rw [e_S14]; show _ + 1 = 42; rw [hN]
  have hc9 : q_cl S14 := by rw [e_S14]; exact q_cl_new hc _ _ _
  have hE9 : Ex S S14 := by rw [e_S14]; exact hE.tr (Ex.new _ (by rw [hN]; decide) _ _ _)
  have hR9 : q_Rk 37 S S14 := by rw [e_S14]; exact hR.new hE.1 _ _ _
  have hK379 : S14.2.2.1 37 = 1 := by rw [e_S14]; exact (if_neg (by rw [hN]; decide)).trans hK37
  clear hc hE hR hK37  
  have hN := hN9
  have hc := hc9
  have hE := hE9
  have hR := hR9
  have hK37 := hK379
  clear hM9
  refine V_putF dX1_init_38 fl_RX1_25 rfl rfl rfl (by rw [hN]; decide) hK37 rfl (fun _ => rfl) (fun _ => rfl) ?_
  refine V_memS (fun S17 e_S17 => ?_)
  replace h := h S17 e_S17
  have hN9 : S17.2.1 = 42 := by rw [e_S17]; exact hN
  have hc9 : q_cl S17 := by rw [e_S17]; exact q_cl_put hc (by rw [hN]; decide)
  have hE9 : Ex S S17 := by rw [e_S17]; exact hE.tr (Ex.put _ _)
  have hR9 : q_Rk 37 S S17 := by rw [e_S17]; exact hR.put (Or.inl rfl)
  have hK379 : S17.2.2.1 37 = 1 := by rw [e_S17]; exact hK37
  clear hc hE hR hK37  
  have hN := hN9
  have hc := hc9
  have hE := hE9
  have hR := hR9
  have hK37 := hK379
  refine V_aload_n dX1_init_41 rfl rfl ?_
  refine V_iconst (v := 4) dX1_init_42 (by decide) ?_
  refine V_newI (z := 4) dX1_init_43 ac_int (by decide) (by decide) (by decide) (by rw [hN]; decide) hc (q_vbn hN rfl) (q_vbn hN rfl) (by decide) (by decide) (fun a19 => ?_)
  rw [hN]
  refine V_memS (fun S18 e_S18 => ?_)
  refine V_memI (fun I20 e_I20 => ?_)
  replace h := h a19 S18 e_S18 I20 e_I20
  have hM9 := hN
  have hN9 : S18.2.1 = 43 := by rw [e_S18]; show _ + 1 = 43; rw [hN]
  have hc9 : q_cl S18 := by rw [e_S18]; exact q_cl_new hc _ _ _
  have hE9 : Ex S S18 := by rw [e_S18]; exact hE.tr (Ex.new _ (by rw [hN]; decide) _ _ _)
  have hR9 : q_Rk 37 S S18 := by rw [e_S18]; exact hR.new hE.1 _ _ _
  have hK379 : S18.2.2.1 37 = 1 := by rw [e_S18]; exact (if_neg (by rw [hN]; decide)).trans hK37
  clear hc hE hR hK37  
  have hN := hN9
  have hc := hc9
  have hE := hE9
  have hR := hR9
  have hK37 := hK379
  clear hM9
  refine V_putF dX1_init_45 fl_RX1_28 rfl rfl rfl (by rw [hN]; decide) hK37 rfl (fun _ => rfl) (fun _ => rfl) ?_
  refine V_memS (fun S21 e_S21 => ?_)
  replace h := h S21 e_S21
  have hN9 : S21.2.1 = 43 := by rw [e_S21]; exact hN
  have hc9 : q_cl S21 := by rw [e_S21]; exact q_cl_put hc (by rw [hN]; decide)
  have hE9 : Ex S S21 := by rw [e_S21]; exact hE.tr (Ex.put _ _)
  have hR9 : q_Rk 37 S S21 := by rw [e_S21]; exact hR.put (Or.inl rfl)
  have hK379 : S21.2.2.1 37 = 1 := by rw [e_S21]; exact hK37
  clear hc hE hR hK37  
  have hN := hN9
  have hc := hc9
  have hE := hE9
  have hR := hR9
  have hK37 := hK379
  refine V_aload_n dX1_init_48 rfl rfl ?_
  refine V_bipush (v := 6) dX1_init_49 (by decide) ?_
  refine V_newI (z := 6) dX1_init_51 ac_int (by decide) (by decide) (by decide) (by rw [hN]; decide) hc (q_vbn hN rfl) (q_vbn hN rfl) (by decide) (by decide) (fun a23 => ?_)
  rw [hN]
  refine V_memS (fun S22 e_S22 => ?_)
  refine V_memI (fun I24 e_I24 => ?_)
  replace h := h a23 S22 e_S22 I24 e_I24
  have hM9 := hN
  have hN9 : S22.2.1 = 44 := by rw [e_S22]; show _ + 1 = 44; rw [hN]
  have hc9 : q_cl S22 := by rw [e_S22]; exact q_cl_new hc _ _ _
  have hE9 : Ex S S22 := by rw [e_S22]; exact hE.tr (Ex.new _ (by rw [hN]; decide) _ _ _)
  have hR9 : q_Rk 37 S S22 := by rw [e_S22]; exact hR.new hE.1 _ _ _
  have hK379 : S22.2.2.1 37 = 1 := by rw [e_S22]; exact (if_neg (by rw [hN]; decide)).trans hK37
  clear hc hE hR hK37  
  have hN := hN9
  have hc := hc9
  have hE := hE9
  have hR := hR9
  have hK37 := hK379
  clear hM9
  refine V_putF dX1_init_53 fl_RX1_31 rfl rfl rfl (by rw [hN]; decide) hK37 rfl (fun _ => rfl) (fun _ => rfl) ?_
  refine V_memS (fun S25 e_S25 => ?_)
  replace h := h S25 e_S25
  have hN9 : S25.2.1 = 44 := by rw [e_S25]; exact hN
  have hc9 : q_cl S25 := by rw [e_S25]; exact q_cl_put hc (by rw [hN]; decide)
  have hE9 : Ex S S25 := by rw [e_S25]; exact hE.tr (Ex.put _ _)
  have hR9 : q_Rk 37 S S25 := by rw [e_S25]; exact hR.put (Or.inl rfl)
  have hK379 : S25.2.2.1 37 = 1 := by rw [e_S25]; exact hK37
  clear hc hE hR hK37  
  have hN := hN9
  have hc := hc9
  have hE := hE9
  have hR := hR9
  have hK37 := hK379
  refine V_aload_n dX1_init_56 rfl rfl ?_
  refine V_bipush (v := 16) dX1_init_57 (by decide) ?_
  refine V_newI (z := 16) dX1_init_59 ac_int (by decide) (by decide) (by decide) (by rw [hN]; decide) hc (q_vbn hN rfl) (q_vbn hN rfl) (by decide) (by decide) (fun a27 => ?_)
  rw [hN]
  refine V_memS (fun S26 e_S26 => ?_)
  refine V_memI (fun I28 e_I28 => ?_)
  replace h := h a27 S26 e_S26 I28 e_I28
  have hM9 := hN
  have hN9 : S26.2.1 = 45 := by rw [e_S26]; show _ + 1 = 45; rw [hN]
  have hc9 : q_cl S26 := by rw [e_S26]; exact q_cl_new hc _ _ _
  have hE9 : Ex S S26 := by rw [e_S26]; exact hE.tr (Ex.new _ (by rw [hN]; decide) _ _ _)
  have hR9 : q_Rk 37 S S26 := by rw [e_S26]; exact hR.new hE.1 _ _ _
  have hK379 : S26.2.2.1 37 = 1 := by rw [e_S26]; exact (if_neg (by rw [hN]; decide)).trans hK37
  clear hc hE hR hK37  
  have hN := hN9
  have hc := hc9
  have hE := hE9
  have hR := hR9
  have hK37 := hK379
  clear hM9
  refine V_putF dX1_init_61 fl_RX1_34 rfl rfl rfl (by rw [hN]; decide) hK37 rfl (fun _ => rfl) (fun _ => rfl) ?_
  refine V_memS (fun S29 e_S29 => ?_)
  replace h := h S29 e_S29
  have hN9 : S29.2.1 = 45 := by rw [e_S29]; exact hN
  have hc9 : q_cl S29 := by rw [e_S29]; exact q_cl_put hc (by rw [hN]; decide)
  have hE9 : Ex S S29 := by rw [e_S29]; exact hE.tr (Ex.put _ _)
  have hR9 : q_Rk 37 S S29 := by rw [e_S29]; exact hR.put (Or.inl rfl)
  have hK379 : S29.2.2.1 37 = 1 := by rw [e_S29]; exact hK37
  clear hc hE hR hK37  
  have hN := hN9
  have hc := hc9
  have hE := hE9
  have hR := hR9
  have hK37 := hK379
  refine V_aload_n dX1_init_64 rfl rfl ?_
  refine V_bipush (v := 16) dX1_init_65 (by decide) ?_
  refine V_newI (z := 16) dX1_init_67 ac_int (by decide) (by decide) (by decide) (by rw [hN]; decide) hc (q_vbn hN rfl) (q_vbn hN rfl) (by decide) (by decide) (fun a31 => ?_)
  rw [hN]
  refine V_memS (fun S30 e_S30 => ?_)
  refine V_memI (fun I32 e_I32 => ?_)
  replace h := h a31 S30 e_S30 I32 e_I32
  have hM9 := hN
  have hN9 : S30.2.1 = 46 := by rw [e_S30]; show _ + 1 = 46; rw [hN]
  have hc9 : q_cl S30 := by rw [e_S30]; exact q_cl_new hc _ _ _
  have hE9 : Ex S S30 := by rw [e_S30]; exact hE.tr (Ex.new _ (by rw [hN]; decide) _ _ _)
  have hR9 : q_Rk 37 S S30 := by rw [e_S30]; exact hR.new hE.1 _ _ _
  have hK379 : S30.2.2.1 37 = 1 := by rw [e_S30]; exact (if_neg (by rw [hN]; decide)).trans hK37
  clear hc hE hR hK37  
  have hN := hN9
  have hc := hc9
  have hE := hE9
  have hR := hR9
  have hK37 := hK379
  clear hM9
  refine V_putF dX1_init_69 fl_RX1_37 rfl rfl rfl (by rw [hN]; decide) hK37 rfl (fun _ => rfl) (fun _ => rfl) ?_
  refine V_memS (fun S33 e_S33 => ?_)
  replace h := h S33 e_S33
  have hN9 : S33.2.1 = 46 := by rw [e_S33]; exact hN
  have hc9 : q_cl S33 := by rw [e_S33]; exact q_cl_put hc (by rw [hN]; decide)
  have hE9 : Ex S S33 := by rw [e_S33]; exact hE.tr (Ex.put _ _)
  have hR9 : q_Rk 37 S S33 := by rw [e_S33]; exact hR.put (Or.inl rfl)
  have hK379 : S33.2.2.1 37 = 1 := by rw [e_S33]; exact hK37
  clear hc hE hR hK37  
  have hN := hN9
  have hc := hc9
  have hE := hE9
  have hR := hR9
  have hK37 := hK379
  exact V_vret dX1_init_72 rfl (by decide) (by decide) ⟨rfl, hE, hc, by rw [hN, hN0], hR, h⟩
def w_X6_init_at46 (S : QS) (I : QI) (J : QJ) (post : QS → QI → QJ → Prop) : Prop := (∀ S1 : QS, S1 = q_sR S (q_u2 S.2.2.2.2 46 0 (some 1)) → (∀ a3 : Nat, ∀ S2 : QS, S2 = q_nS S1 a3 9 4 → (∀ I4 : QI, I4 = q_rw I 47 (fun _ => 0) → (∀ S5 : QS, S5 = q_sR S2 (q_u2 S2.2.2.2.2 46 1 (some 47)) → (∀ a7 : Nat, ∀ S6 : QS, S6 = q_nS S5 a7 9 4 → (∀ I8 : QI, I8 = q_rw I4 48 (fun _ => 0) → (∀ S9 : QS, S9 = q_sR S6 (q_u2 S6.2.2.2.2 46 2 (some 48)) → (∀ a11 : Nat, ∀ S10 : QS, S10 = q_nS S9 a11 9 4 → (∀ I12 : QI, I12 = q_rw I8 49 (fun _ => 0) → (∀ S13 : QS, S13 = q_sR S10 (q_u2 S10.2.2.2.2 46 3 (some 49)) → (∀ a15 : Nat, ∀ S14 : QS, S14 = q_nS S13 a15 9 4 → (∀ I16 : QI, I16 = q_rw I12 50 (fun _ => 0) → (∀ S17 : QS, S17 = q_sR S14 (q_u2 S14.2.2.2.2 46 4 (some 50)) → (post S17 I16 J))))))))))))))
set_option maxRecDepth 100000 in
set_option maxHeartbeats 4000000 in
theorem s_X6_init_at46 {X : QX} {S : QS} {I : QI} {J : QJ} {post : QS → QI → QJ → Prop} (hN : S.2.1 = 47) (hc : q_cl S) (hK46 : S.2.2.1 46 = 6) (h : w_X6_init_at46 S I J post) : CX X mX6_init 1 4 16 [.ref 46, .ref 1] S I J (q_Pk 46 S 4 post) := by
  have hN0 := hN
  have hE : Ex S S := Ex.rf
  have hR : q_Rk 46 S S := q_Rk.rf
  refine CX.of (lo := [(0, .ref 46), (1, .ref 1)]) ok_mX6_init rfl (Nat.le_of_ble_eq_true rfl) rfl ?_
  replace h : (∀ S1 : QS, S1 = q_sR S (q_u2 S.2.2.2.2 46 0 (some 1)) → (∀ a3 : Nat, ∀ S2 : QS, S2 = q_nS S1 a3 9 4 → (∀ I4 : QI, I4 = q_rw I 47 (fun _ => 0) → (∀ S5 : QS, S5 = q_sR S2 (q_u2 S2.2.2.2.2 46 1 (some 47)) → (∀ a7 : Nat, ∀ S6 : QS, S6 = q_nS S5 a7 9 4 → (∀ I8 : QI, I8 = q_rw I4 48 (fun _ => 0) → (∀ S9 : QS, S9 = q_sR S6 (q_u2 S6.2.2.2.2 46 2 (some 48)) → (∀ a11 : Nat, ∀ S10 : QS, S10 = q_nS S9 a11 9 4 → (∀ I12 : QI, I12 = q_rw I8 49 (fun _ => 0) → (∀ S13 : QS, S13 = q_sR S10 (q_u2 S10.2.2.2.2 46 3 (some 49)) → (∀ a15 : Nat, ∀ S14 : QS, S14 = q_nS S13 a15 9 4 → (∀ I16 : QI, I16 = q_rw I12 50 (fun _ => 0) → (∀ S17 : QS, S17 = q_sR S14 (q_u2 S14.2.2.2.2 46 4 (some 50)) → (post S17 I16 J)))))))))))))) := h
  refine V_aload_n dX6_init_0 rfl rfl ?_
  refine V_objInit dX6_init_1 ml_RX6_3 ob_in ob_co (Nat.le_of_ble_eq_true rfl) ?_
  refine V_aload_n dX6_init_4 rfl rfl ?_
  refine V_aload_n dX6_init_5 rfl rfl ?_
  refine V_putF dX6_init_6 fl_RX6_9 rfl rfl rfl (by rw [hN]; decide) hK46 rfl (fun _ => rfl) (fun _ => rfl) ?_
  refine V_memS (fun S1 e_S1 => ?_)
  replace h := h S1 e_S1
  have hN9 : S1.2.1 = 47 := by rw [e_S1]; exact hN
  have hc9 : q_cl S1 := by rw [e_S1]; exact q_cl_put hc (by rw [hN]; decide)
  have hE9 : Ex S S1 := by rw [e_S1]; exact hE.tr (Ex.put _ _)
  have hR9 : q_Rk 46 S S1 := by rw [e_S1]; exact hR.put (Or.inl rfl)
  have hK469 : S1.2.2.1 46 = 6 := by rw [e_S1]; exact hK46
  clear hc hE hR hK46  
  have hN := hN9
  have hc := hc9
  have hE := hE9
  have hR := hR9
  have hK46 := hK469
  refine V_aload_n dX6_init_9 rfl rfl ?_
  refine V_iconst (v := 4) dX6_init_10 (by decide) ?_
  refine V_newI (z := 4) dX6_init_11 ac_int (by decide) (by decide) (by decide) (by rw [hN]; decide) hc (q_vbn hN rfl) (q_vbn hN rfl) (by decide) (by decide) (fun a3 => ?_)
  rw [hN]
  refine V_memS (fun S2 e_S2 => ?_)
  refine V_memI (fun I4 e_I4 => ?_)
  replace h := h a3 S2 e_S2 I4 e_I4
  have hM9 := hN
  have hN9 : S2.2.1 = 48 := by rw [e_S2]; show _ + 1 = 48; rw [hN]
  have hc9 : q_cl S2 := by rw [e_S2]; exact q_cl_new hc _ _ _
  have hE9 : Ex S S2 := by rw [e_S2]; exact hE.tr (Ex.new _ (by rw [hN]; decide) _ _ _)
  have hR9 : q_Rk 46 S S2 := by rw [e_S2]; exact hR.new hE.1 _ _ _
  have hK469 : S2.2.2.1 46 = 6 := by rw [e_S2]; exact (if_neg (by rw [hN]; decide)).trans hK46
  clear hc hE hR hK46  
  have hN := hN9
  have hc := hc9
  have hE := hE9
  have hR := hR9
  have hK46 := hK469
  clear hM9
  refine V_putF dX6_init_13 fl_RX6_15 rfl rfl rfl (by rw [hN]; decide) hK46 rfl (fun _ => rfl) (fun _ => rfl) ?_
  refine V_memS (fun S5 e_S5 => ?_)
  replace h := h S5 e_S5
  have hN9 : S5.2.1 = 48 := by rw [e_S5]; exact hN
  have hc9 : q_cl S5 := by rw [e_S5]; exact q_cl_put hc (by rw [hN]; decide)
  have hE9 : Ex S S5 := by rw [e_S5]; exact hE.tr (Ex.put _ _)
  have hR9 : q_Rk 46 S S5 := by rw [e_S5]; exact hR.put (Or.inl rfl)
  have hK469 : S5.2.2.1 46 = 6 := by rw [e_S5]; exact hK46
  clear hc hE hR hK46  
  have hN := hN9
  have hc := hc9
  have hE := hE9
  have hR := hR9
  have hK46 := hK469
  refine V_aload_n dX6_init_16 rfl rfl ?_
  refine V_iconst (v := 4) dX6_init_17 (by decide) ?_
  refine V_newI (z := 4) dX6_init_18 ac_int (by decide) (by decide) (by decide) (by rw [hN]; decide) hc (q_vbn hN rfl) (q_vbn hN rfl) (by decide) (by decide) (fun a7 => ?_)
  rw [hN]
  refine V_memS (fun S6 e_S6 => ?_)
  refine V_memI (fun I8 e_I8 => ?_)
  replace h := h a7 S6 e_S6 I8 e_I8
  have hM9 := hN
  have hN9 : S6.2.1 = 49 := by rw [e_S6]; show _ + 1 = 49; rw [hN]
  have hc9 : q_cl S6 := by rw [e_S6]; exact q_cl_new hc _ _ _
  have hE9 : Ex S S6 := by rw [e_S6]; exact hE.tr (Ex.new _ (by rw [hN]; decide) _ _ _)
  have hR9 : q_Rk 46 S S6 := by rw [e_S6]; exact hR.new hE.1 _ _ _
  have hK469 : S6.2.2.1 46 = 6 := by rw [e_S6]; exact (if_neg (by rw [hN]; decide)).trans hK46
  clear hc hE hR hK46  
  have hN := hN9
  have hc := hc9
  have hE := hE9
  have hR := hR9
  have hK46 := hK469
  clear hM9
  refine V_putF dX6_init_20 fl_RX6_19 rfl rfl rfl (by rw [hN]; decide) hK46 rfl (fun _ => rfl) (fun _ => rfl) ?_
  refine V_memS (fun S9 e_S9 => ?_)
  replace h := h S9 e_S9
  have hN9 : S9.2.1 = 49 := by rw [e_S9]; exact hN
  have hc9 : q_cl S9 := by rw [e_S9]; exact q_cl_put hc (by rw [hN]; decide)
  have hE9 : Ex S S9 := by rw [e_S9]; exact hE.tr (Ex.put _ _)
  have hR9 : q_Rk 46 S S9 := by rw [e_S9]; exact hR.put (Or.inl rfl)
  have hK469 : S9.2.2.1 46 = 6 := by rw [e_S9]; exact hK46
  clear hc hE hR hK46  
  have hN := hN9
  have hc := hc9
  have hE := hE9
  have hR := hR9
  have hK46 := hK469
  refine V_aload_n dX6_init_23 rfl rfl ?_
  refine V_iconst (v := 4) dX6_init_24 (by decide) ?_
  refine V_newI (z := 4) dX6_init_25 ac_int (by decide) (by decide) (by decide) (by rw [hN]; decide) hc (q_vbn hN rfl) (q_vbn hN rfl) (by decide) (by decide) (fun a11 => ?_)
  rw [hN]
  refine V_memS (fun S10 e_S10 => ?_)
  refine V_memI (fun I12 e_I12 => ?_)
  replace h := h a11 S10 e_S10 I12 e_I12
  have hM9 := hN
  have hN9 : S10.2.1 = 50 := by rw [e_S10]; show _ + 1 = 50; rw [hN]
  have hc9 : q_cl S10 := by rw [e_S10]; exact q_cl_new hc _ _ _
  have hE9 : Ex S S10 := by rw [e_S10]; exact hE.tr (Ex.new _ (by rw [hN]; decide) _ _ _)
  have hR9 : q_Rk 46 S S10 := by rw [e_S10]; exact hR.new hE.1 _ _ _
  have hK469 : S10.2.2.1 46 = 6 := by rw [e_S10]; exact (if_neg (by rw [hN]; decide)).trans hK46
  clear hc hE hR hK46  
  have hN := hN9
  have hc := hc9
  have hE := hE9
  have hR := hR9
  have hK46 := hK469
  clear hM9
  refine V_putF dX6_init_27 fl_RX6_22 rfl rfl rfl (by rw [hN]; decide) hK46 rfl (fun _ => rfl) (fun _ => rfl) ?_
  refine V_memS (fun S13 e_S13 => ?_)
  replace h := h S13 e_S13
  have hN9 : S13.2.1 = 50 := by rw [e_S13]; exact hN
  have hc9 : q_cl S13 := by rw [e_S13]; exact q_cl_put hc (by rw [hN]; decide)
  have hE9 : Ex S S13 := by rw [e_S13]; exact hE.tr (Ex.put _ _)
  have hR9 : q_Rk 46 S S13 := by rw [e_S13]; exact hR.put (Or.inl rfl)
  have hK469 : S13.2.2.1 46 = 6 := by rw [e_S13]; exact hK46
  clear hc hE hR hK46  
  have hN := hN9
  have hc := hc9
  have hE := hE9
  have hR := hR9
  have hK46 := hK469
  refine V_aload_n dX6_init_30 rfl rfl ?_
  refine V_iconst (v := 4) dX6_init_31 (by decide) ?_
  refine V_newI (z := 4) dX6_init_32 ac_int (by decide) (by decide) (by decide) (by rw [hN]; decide) hc (q_vbn hN rfl) (q_vbn hN rfl) (by decide) (by decide) (fun a15 => ?_)
  rw [hN]
  refine V_memS (fun S14 e_S14 => ?_)
  refine V_memI (fun I16 e_I16 => ?_)
  replace h := h a15 S14 e_S14 I16 e_I16
  have hM9 := hN
  have hN9 : S14.2.1 = 51 := by rw [e_S14]; show _ + 1 = 51; rw [hN]
  have hc9 : q_cl S14 := by rw [e_S14]; exact q_cl_new hc _ _ _
  have hE9 : Ex S S14 := by rw [e_S14]; exact hE.tr (Ex.new _ (by rw [hN]; decide) _ _ _)
  have hR9 : q_Rk 46 S S14 := by rw [e_S14]; exact hR.new hE.1 _ _ _
  have hK469 : S14.2.2.1 46 = 6 := by rw [e_S14]; exact (if_neg (by rw [hN]; decide)).trans hK46
  clear hc hE hR hK46  
  have hN := hN9
  have hc := hc9
  have hE := hE9
  have hR := hR9
  have hK46 := hK469
  clear hM9
  refine V_putF dX6_init_34 fl_RX6_25 rfl rfl rfl (by rw [hN]; decide) hK46 rfl (fun _ => rfl) (fun _ => rfl) ?_
  refine V_memS (fun S17 e_S17 => ?_)
  replace h := h S17 e_S17
  have hN9 : S17.2.1 = 51 := by rw [e_S17]; exact hN
  have hc9 : q_cl S17 := by rw [e_S17]; exact q_cl_put hc (by rw [hN]; decide)
  have hE9 : Ex S S17 := by rw [e_S17]; exact hE.tr (Ex.put _ _)
  have hR9 : q_Rk 46 S S17 := by rw [e_S17]; exact hR.put (Or.inl rfl)
  have hK469 : S17.2.2.1 46 = 6 := by rw [e_S17]; exact hK46
  clear hc hE hR hK46  
  have hN := hN9
  have hc := hc9
  have hE := hE9
  have hR := hR9
  have hK46 := hK469
  exact V_vret dX6_init_37 rfl (by decide) (by decide) ⟨rfl, hE, hc, by rw [hN, hN0], hR, h⟩
def w_X7_init_at0 (S : QS) (I : QI) (J : QJ) (post : QS → QI → QJ → Prop) : Prop := (∀ a2 : Nat, ∀ S1 : QS, S1 = q_nS S a2 4 0 → (∀ I3 : QI, I3 = q_rw I 1 (fun _ => 0) → (w_X4_init_at1 S1 I3 J (fun S4 I5 J6 => (∀ S7 : QS, S7 = q_sR S4 (q_u2 S4.2.2.2.2 0 0 (some 1)) → (∀ a9 : Nat, ∀ S8 : QS, S8 = q_nS S7 a9 2 0 → (∀ I10 : QI, I10 = q_rw I5 15 (fun _ => 0) → (w_X2_init_at15 S8 I10 J6 (fun S11 I12 J13 => (∀ S14 : QS, S14 = q_sR S11 (q_u2 S11.2.2.2.2 0 1 (some 15)) → (∀ a16 : Nat, ∀ S15 : QS, S15 = q_nS S14 a16 0 0 → (∀ I17 : QI, I17 = q_rw I12 23 (fun _ => 0) → (w_X0_init_at23 S15 I17 J13 (fun S18 I19 J20 => (∀ S21 : QS, S21 = q_sR S18 (q_u2 S18.2.2.2.2 0 2 (some 23)) → (∀ a23 : Nat, ∀ S22 : QS, S22 = q_nS S21 a23 3 0 → (∀ I24 : QI, I24 = q_rw I19 30 (fun _ => 0) → (w_X3_init_at30 S22 I24 J20 (fun S25 I26 J27 => (∀ S28 : QS, S28 = q_sR S25 (q_u2 S25.2.2.2.2 0 3 (some 30)) → (∀ a30 : Nat, ∀ S29 : QS, S29 = q_nS S28 a30 1 0 → (∀ I31 : QI, I31 = q_rw I26 37 (fun _ => 0) → (w_X1_init_at37 S29 I31 J27 (fun S32 I33 J34 => (∀ S35 : QS, S35 = q_sR S32 (q_u2 S32.2.2.2.2 0 4 (some 37)) → (∀ a37 : Nat, ∀ S36 : QS, S36 = q_nS S35 a37 6 0 → (∀ I38 : QI, I38 = q_rw I33 46 (fun _ => 0) → (w_X6_init_at46 S36 I38 J34 (fun S39 I40 J41 => (∀ S42 : QS, S42 = q_sR S39 (q_u2 S39.2.2.2.2 0 5 (some 46)) → (∀ I43 : QI, I43 = q_u2 I40 0 6 100000 → (post S42 I43 J41))))))))))))))))))))))))))))))))
set_option maxRecDepth 100000 in
set_option maxHeartbeats 4000000 in
theorem s_X7_init_at0 {X : QX} {S : QS} {I : QI} {J : QJ} {post : QS → QI → QJ → Prop} (hN : S.2.1 = 1) (hc : q_cl S) (hK0 : S.2.2.1 0 = 7) (h : w_X7_init_at0 S I J post) : CX X mX7_init 3 50 37107 [.ref 0] S I J (q_Pk 0 S 50 post) := by
  have hN0 := hN
  have hE : Ex S S := Ex.rf
  have hR : q_Rk 0 S S := q_Rk.rf
  refine CX.of (lo := [(0, .ref 0)]) ok_mX7_init rfl (Nat.le_of_ble_eq_true rfl) rfl ?_
  replace h : (∀ a2 : Nat, ∀ S1 : QS, S1 = q_nS S a2 4 0 → (∀ I3 : QI, I3 = q_rw I 1 (fun _ => 0) → (w_X4_init_at1 S1 I3 J (fun S4 I5 J6 => (∀ S7 : QS, S7 = q_sR S4 (q_u2 S4.2.2.2.2 0 0 (some 1)) → (∀ a9 : Nat, ∀ S8 : QS, S8 = q_nS S7 a9 2 0 → (∀ I10 : QI, I10 = q_rw I5 15 (fun _ => 0) → (w_X2_init_at15 S8 I10 J6 (fun S11 I12 J13 => (∀ S14 : QS, S14 = q_sR S11 (q_u2 S11.2.2.2.2 0 1 (some 15)) → (∀ a16 : Nat, ∀ S15 : QS, S15 = q_nS S14 a16 0 0 → (∀ I17 : QI, I17 = q_rw I12 23 (fun _ => 0) → (w_X0_init_at23 S15 I17 J13 (fun S18 I19 J20 => (∀ S21 : QS, S21 = q_sR S18 (q_u2 S18.2.2.2.2 0 2 (some 23)) → (∀ a23 : Nat, ∀ S22 : QS, S22 = q_nS S21 a23 3 0 → (∀ I24 : QI, I24 = q_rw I19 30 (fun _ => 0) → (w_X3_init_at30 S22 I24 J20 (fun S25 I26 J27 => (∀ S28 : QS, S28 = q_sR S25 (q_u2 S25.2.2.2.2 0 3 (some 30)) → (∀ a30 : Nat, ∀ S29 : QS, S29 = q_nS S28 a30 1 0 → (∀ I31 : QI, I31 = q_rw I26 37 (fun _ => 0) → (w_X1_init_at37 S29 I31 J27 (fun S32 I33 J34 => (∀ S35 : QS, S35 = q_sR S32 (q_u2 S32.2.2.2.2 0 4 (some 37)) → (∀ a37 : Nat, ∀ S36 : QS, S36 = q_nS S35 a37 6 0 → (∀ I38 : QI, I38 = q_rw I33 46 (fun _ => 0) → (w_X6_init_at46 S36 I38 J34 (fun S39 I40 J41 => (∀ S42 : QS, S42 = q_sR S39 (q_u2 S39.2.2.2.2 0 5 (some 46)) → (∀ I43 : QI, I43 = q_u2 I40 0 6 100000 → (post S42 I43 J41)))))))))))))))))))))))))))))))) := h
  refine V_aload_n dX7_init_0 rfl rfl ?_
  refine V_objInit dX7_init_1 ml_RX7_1 ob_in ob_co (Nat.le_of_ble_eq_true rfl) ?_
  refine V_aload_n dX7_init_4 rfl rfl ?_
  refine V_new (ci := 4) dX7_init_5 (by decide) cl_RX7_7 is_RX4 ii_RX4 (by rw [hN]; decide) hc (q_vbn hN rfl) (q_vbn hN rfl) (by decide) (by decide) (fun a2 => ?_)
  rw [hN]
  refine V_memS (fun S1 e_S1 => ?_)
  refine V_memI (fun I3 e_I3 => ?_)
  replace h := h a2 S1 e_S1 I3 e_I3
  have hM9 := hN
  have hN9 : S1.2.1 = 2 := by rw [e_S1]; show _ + 1 = 2; rw [hN]
  have hc9 : q_cl S1 := by rw [e_S1]; exact q_cl_new hc _ _ _
  have hE9 : Ex S S1 := by rw [e_S1]; exact hE.tr (Ex.new _ (by rw [hN]; decide) _ _ _)
  have hR9 : q_Rk 0 S S1 := by rw [e_S1]; exact hR.new hE.1 _ _ _
  have hK09 : S1.2.2.1 0 = 7 := by rw [e_S1]; exact (if_neg (by rw [hN]; decide)).trans hK0
  clear hc hE hR hK0  
  have hN := hN9
  have hc := hc9
  have hE := hE9
  have hR := hR9
  have hK0 := hK09
  have hK1 : S1.2.2.1 1 = 4 := by rw [e_S1]; exact if_pos hM9.symm
  clear hM9
  refine V_dup dX7_init_8 rfl ?_
  refine V_callIk (st := [.ref 1, .ref 0]) [] dX7_init_9 ok_mX4_init rfl ml_RX7_9 in_mX4_init rfl rfl (Nat.le_of_ble_eq_true rfl) (by decide) (by decide) (by decide) (q_vbn hN rfl) (q_vbn hN rfl) (s_X4_init_at1 hN hc hK1 h) (fun S4 I5 J6 hE8 hc8 hN8 hR8 h => ?_)
  have hN9 : S4.2.1 = 15 := by rw [hN8, hN]
  have hE9 := hE.tr hE8
  have hR9 := hR.call hE hR8 (by rw [hN0]; decide)
  have hK09 : S4.2.2.1 0 = 7 := (hE8.2.1 0 (by rw [hN]; decide)).2.1.trans hK0
  have hK19 : S4.2.2.1 1 = 4 := (hE8.2.1 1 (by rw [hN]; decide)).2.1.trans hK1
  clear hc hE hR hK0 hK1  
  have hN := hN9
  have hc := hc8
  have hE := hE9
  have hR := hR9
  have hK0 := hK09
  have hK1 := hK19
  refine V_putF dX7_init_12 fl_RX7_10 rfl rfl rfl (by rw [hN]; decide) hK0 rfl (fun _ => rfl) (fun _ => rfl) ?_
  refine V_memS (fun S7 e_S7 => ?_)
  replace h := h S7 e_S7
  have hN9 : S7.2.1 = 15 := by rw [e_S7]; exact hN
  have hc9 : q_cl S7 := by rw [e_S7]; exact q_cl_put hc (by rw [hN]; decide)
  have hE9 : Ex S S7 := by rw [e_S7]; exact hE.tr (Ex.put _ _)
  have hR9 : q_Rk 0 S S7 := by rw [e_S7]; exact hR.put (Or.inl rfl)
  have hK09 : S7.2.2.1 0 = 7 := by rw [e_S7]; exact hK0
  have hK19 : S7.2.2.1 1 = 4 := by rw [e_S7]; exact hK1
  clear hc hE hR hK0 hK1  
  have hN := hN9
  have hc := hc9
  have hE := hE9
  have hR := hR9
  have hK0 := hK09
  have hK1 := hK19
  have hR0_0 : S7.2.2.2.2 0 0 = some 1 := by rw [e_S7]; exact q_u2_s S4.2.2.2.2 0 0 (some 1)
  refine V_aload_n dX7_init_15 rfl rfl ?_
  refine V_new (ci := 2) dX7_init_16 (by decide) cl_RX7_16 is_RX2 ii_RX2 (by rw [hN]; decide) hc (q_vbn hN rfl) (q_vbn hN rfl) (by decide) (by decide) (fun a9 => ?_)
  rw [hN]
  refine V_memS (fun S8 e_S8 => ?_)
  refine V_memI (fun I10 e_I10 => ?_)
  replace h := h a9 S8 e_S8 I10 e_I10
  have hM9 := hN
  have hN9 : S8.2.1 = 16 := by rw [e_S8]; show _ + 1 = 16; rw [hN]
  have hc9 : q_cl S8 := by rw [e_S8]; exact q_cl_new hc _ _ _
  have hE9 : Ex S S8 := by rw [e_S8]; exact hE.tr (Ex.new _ (by rw [hN]; decide) _ _ _)
  have hR9 : q_Rk 0 S S8 := by rw [e_S8]; exact hR.new hE.1 _ _ _
  have hK09 : S8.2.2.1 0 = 7 := by rw [e_S8]; exact (if_neg (by rw [hN]; decide)).trans hK0
  have hK19 : S8.2.2.1 1 = 4 := by rw [e_S8]; exact (if_neg (by rw [hN]; decide)).trans hK1
  have hR0_09 : S8.2.2.2.2 0 0 = some 1 := by rw [e_S8]; exact (congrFun (if_neg (by rw [hN]; decide)) _).trans hR0_0
  clear hc hE hR hK0 hK1  hR0_0
  have hN := hN9
  have hc := hc9
  have hE := hE9
  have hR := hR9
  have hK0 := hK09
  have hK1 := hK19
  have hR0_0 := hR0_09
  have hK15 : S8.2.2.1 15 = 2 := by rw [e_S8]; exact if_pos hM9.symm
  clear hM9
  refine V_dup dX7_init_19 rfl ?_
  refine V_aload_n dX7_init_20 rfl rfl ?_
  refine V_getr dX7_init_21 fl_RX7_10 (by rw [hN]; decide) hK0 rfl hR0_0 ?_
  refine V_callIk (st := [.ref 15, .ref 0]) [.ref 1] dX7_init_24 ok_mX2_init rfl ml_RX7_18 in_mX2_init rfl rfl (Nat.le_of_ble_eq_true rfl) (by decide) (by decide) (by decide) (q_vbn hN rfl) (q_vbn hN rfl) (s_X2_init_at15 hN hc hK15 h) (fun S11 I12 J13 hE8 hc8 hN8 hR8 h => ?_)
  have hN9 : S11.2.1 = 23 := by rw [hN8, hN]
  have hE9 := hE.tr hE8
  have hR9 := hR.call hE hR8 (by rw [hN0]; decide)
  have hK09 : S11.2.2.1 0 = 7 := (hE8.2.1 0 (by rw [hN]; decide)).2.1.trans hK0
  have hK19 : S11.2.2.1 1 = 4 := (hE8.2.1 1 (by rw [hN]; decide)).2.1.trans hK1
  have hR0_09 : S11.2.2.2.2 0 0 = some 1 := (congrFun (hR8 0 (by rw [hN]; decide) (by decide)) _).trans hR0_0
  have hK159 : S11.2.2.1 15 = 2 := (hE8.2.1 15 (by rw [hN]; decide)).2.1.trans hK15
  clear hc hE hR hK0 hK1 hK15  hR0_0
  have hN := hN9
  have hc := hc8
  have hE := hE9
  have hR := hR9
  have hK0 := hK09
  have hK1 := hK19
  have hR0_0 := hR0_09
  have hK15 := hK159
  refine V_putF dX7_init_27 fl_RX7_21 rfl rfl rfl (by rw [hN]; decide) hK0 rfl (fun _ => rfl) (fun _ => rfl) ?_
  refine V_memS (fun S14 e_S14 => ?_)
  replace h := h S14 e_S14
  have hN9 : S14.2.1 = 23 := by rw [e_S14]; exact hN
  have hc9 : q_cl S14 := by rw [e_S14]; exact q_cl_put hc (by rw [hN]; decide)
  have hE9 : Ex S S14 := by rw [e_S14]; exact hE.tr (Ex.put _ _)
  have hR9 : q_Rk 0 S S14 := by rw [e_S14]; exact hR.put (Or.inl rfl)
  have hK09 : S14.2.2.1 0 = 7 := by rw [e_S14]; exact hK0
  have hK19 : S14.2.2.1 1 = 4 := by rw [e_S14]; exact hK1
  have hR0_09 : S14.2.2.2.2 0 0 = some 1 := by rw [e_S14]; exact (if_neg (t := some 15) (show ¬ ((0 : Nat) = 0 ∧ (0 : Nat) = 1) by decide)).trans hR0_0
  have hK159 : S14.2.2.1 15 = 2 := by rw [e_S14]; exact hK15
  clear hc hE hR hK0 hK1 hK15  hR0_0
  have hN := hN9
  have hc := hc9
  have hE := hE9
  have hR := hR9
  have hK0 := hK09
  have hK1 := hK19
  have hR0_0 := hR0_09
  have hK15 := hK159
  have hR0_1 : S14.2.2.2.2 0 1 = some 15 := by rw [e_S14]; exact q_u2_s S11.2.2.2.2 0 1 (some 15)
  refine V_aload_n dX7_init_30 rfl rfl ?_
  refine V_new (ci := 0) dX7_init_31 (by decide) cl_RX7_25 is_RX0 ii_RX0 (by rw [hN]; decide) hc (q_vbn hN rfl) (q_vbn hN rfl) (by decide) (by decide) (fun a16 => ?_)
  rw [hN]
  refine V_memS (fun S15 e_S15 => ?_)
  refine V_memI (fun I17 e_I17 => ?_)
  replace h := h a16 S15 e_S15 I17 e_I17
  have hM9 := hN
  have hN9 : S15.2.1 = 24 := by rw [e_S15]; show _ + 1 = 24; rw [hN]
  have hc9 : q_cl S15 := by rw [e_S15]; exact q_cl_new hc _ _ _
  have hE9 : Ex S S15 := by rw [e_S15]; exact hE.tr (Ex.new _ (by rw [hN]; decide) _ _ _)
  have hR9 : q_Rk 0 S S15 := by rw [e_S15]; exact hR.new hE.1 _ _ _
  have hK09 : S15.2.2.1 0 = 7 := by rw [e_S15]; exact (if_neg (by rw [hN]; decide)).trans hK0
  have hK19 : S15.2.2.1 1 = 4 := by rw [e_S15]; exact (if_neg (by rw [hN]; decide)).trans hK1
  have hR0_09 : S15.2.2.2.2 0 0 = some 1 := by rw [e_S15]; exact (congrFun (if_neg (by rw [hN]; decide)) _).trans hR0_0
  have hK159 : S15.2.2.1 15 = 2 := by rw [e_S15]; exact (if_neg (by rw [hN]; decide)).trans hK15
  have hR0_19 : S15.2.2.2.2 0 1 = some 15 := by rw [e_S15]; exact (congrFun (if_neg (by rw [hN]; decide)) _).trans hR0_1
  clear hc hE hR hK0 hK1 hK15  hR0_0 hR0_1
  have hN := hN9
  have hc := hc9
  have hE := hE9
  have hR := hR9
  have hK0 := hK09
  have hK1 := hK19
  have hR0_0 := hR0_09
  have hK15 := hK159
  have hR0_1 := hR0_19
  have hK23 : S15.2.2.1 23 = 0 := by rw [e_S15]; exact if_pos hM9.symm
  clear hM9
  refine V_dup dX7_init_34 rfl ?_
  refine V_aload_n dX7_init_35 rfl rfl ?_
  refine V_getr dX7_init_36 fl_RX7_10 (by rw [hN]; decide) hK0 rfl hR0_0 ?_
  refine V_aload_n dX7_init_39 rfl rfl ?_
  refine V_getr dX7_init_40 fl_RX7_21 (by rw [hN]; decide) hK0 rfl hR0_1 ?_
  refine V_callIk (st := [.ref 23, .ref 0]) [.ref 1, .ref 15] dX7_init_43 ok_mX0_init rfl ml_RX7_27 in_mX0_init rfl rfl (Nat.le_of_ble_eq_true rfl) (by decide) (by decide) (by decide) (q_vbn hN rfl) (q_vbn hN rfl) (s_X0_init_at23 hN hc hK23 h) (fun S18 I19 J20 hE8 hc8 hN8 hR8 h => ?_)
  have hN9 : S18.2.1 = 30 := by rw [hN8, hN]
  have hE9 := hE.tr hE8
  have hR9 := hR.call hE hR8 (by rw [hN0]; decide)
  have hK09 : S18.2.2.1 0 = 7 := (hE8.2.1 0 (by rw [hN]; decide)).2.1.trans hK0
  have hK19 : S18.2.2.1 1 = 4 := (hE8.2.1 1 (by rw [hN]; decide)).2.1.trans hK1
  have hR0_09 : S18.2.2.2.2 0 0 = some 1 := (congrFun (hR8 0 (by rw [hN]; decide) (by decide)) _).trans hR0_0
  have hK159 : S18.2.2.1 15 = 2 := (hE8.2.1 15 (by rw [hN]; decide)).2.1.trans hK15
  have hR0_19 : S18.2.2.2.2 0 1 = some 15 := (congrFun (hR8 0 (by rw [hN]; decide) (by decide)) _).trans hR0_1
  have hK239 : S18.2.2.1 23 = 0 := (hE8.2.1 23 (by rw [hN]; decide)).2.1.trans hK23
  clear hc hE hR hK0 hK1 hK15 hK23  hR0_0 hR0_1
  have hN := hN9
  have hc := hc8
  have hE := hE9
  have hR := hR9
  have hK0 := hK09
  have hK1 := hK19
  have hR0_0 := hR0_09
  have hK15 := hK159
  have hR0_1 := hR0_19
  have hK23 := hK239
  refine V_putF dX7_init_46 fl_RX7_30 rfl rfl rfl (by rw [hN]; decide) hK0 rfl (fun _ => rfl) (fun _ => rfl) ?_
  refine V_memS (fun S21 e_S21 => ?_)
  replace h := h S21 e_S21
  have hN9 : S21.2.1 = 30 := by rw [e_S21]; exact hN
  have hc9 : q_cl S21 := by rw [e_S21]; exact q_cl_put hc (by rw [hN]; decide)
  have hE9 : Ex S S21 := by rw [e_S21]; exact hE.tr (Ex.put _ _)
  have hR9 : q_Rk 0 S S21 := by rw [e_S21]; exact hR.put (Or.inl rfl)
  have hK09 : S21.2.2.1 0 = 7 := by rw [e_S21]; exact hK0
  have hK19 : S21.2.2.1 1 = 4 := by rw [e_S21]; exact hK1
  have hR0_09 : S21.2.2.2.2 0 0 = some 1 := by rw [e_S21]; exact (if_neg (t := some 23) (show ¬ ((0 : Nat) = 0 ∧ (0 : Nat) = 2) by decide)).trans hR0_0
  have hK159 : S21.2.2.1 15 = 2 := by rw [e_S21]; exact hK15
  have hR0_19 : S21.2.2.2.2 0 1 = some 15 := by rw [e_S21]; exact (if_neg (t := some 23) (show ¬ ((0 : Nat) = 0 ∧ (1 : Nat) = 2) by decide)).trans hR0_1
  have hK239 : S21.2.2.1 23 = 0 := by rw [e_S21]; exact hK23
  clear hc hE hR hK0 hK1 hK15 hK23  hR0_0 hR0_1
  have hN := hN9
  have hc := hc9
  have hE := hE9
  have hR := hR9
  have hK0 := hK09
  have hK1 := hK19
  have hR0_0 := hR0_09
  have hK15 := hK159
  have hR0_1 := hR0_19
  have hK23 := hK239
  have hR0_2 : S21.2.2.2.2 0 2 = some 23 := by rw [e_S21]; exact q_u2_s S18.2.2.2.2 0 2 (some 23)
  refine V_aload_n dX7_init_49 rfl rfl ?_
  refine V_new (ci := 3) dX7_init_50 (by decide) cl_RX7_34 is_RX3 ii_RX3 (by rw [hN]; decide) hc (q_vbn hN rfl) (q_vbn hN rfl) (by decide) (by decide) (fun a23 => ?_)
  rw [hN]
  refine V_memS (fun S22 e_S22 => ?_)
  refine V_memI (fun I24 e_I24 => ?_)
  replace h := h a23 S22 e_S22 I24 e_I24
  have hM9 := hN
  have hN9 : S22.2.1 = 31 := by rw [e_S22]; show _ + 1 = 31; rw [hN]
  have hc9 : q_cl S22 := by rw [e_S22]; exact q_cl_new hc _ _ _
  have hE9 : Ex S S22 := by rw [e_S22]; exact hE.tr (Ex.new _ (by rw [hN]; decide) _ _ _)
  have hR9 : q_Rk 0 S S22 := by rw [e_S22]; exact hR.new hE.1 _ _ _
  have hK09 : S22.2.2.1 0 = 7 := by rw [e_S22]; exact (if_neg (by rw [hN]; decide)).trans hK0
  have hK19 : S22.2.2.1 1 = 4 := by rw [e_S22]; exact (if_neg (by rw [hN]; decide)).trans hK1
  have hR0_09 : S22.2.2.2.2 0 0 = some 1 := by rw [e_S22]; exact (congrFun (if_neg (by rw [hN]; decide)) _).trans hR0_0
  have hK159 : S22.2.2.1 15 = 2 := by rw [e_S22]; exact (if_neg (by rw [hN]; decide)).trans hK15
  have hR0_19 : S22.2.2.2.2 0 1 = some 15 := by rw [e_S22]; exact (congrFun (if_neg (by rw [hN]; decide)) _).trans hR0_1
  have hK239 : S22.2.2.1 23 = 0 := by rw [e_S22]; exact (if_neg (by rw [hN]; decide)).trans hK23
  have hR0_29 : S22.2.2.2.2 0 2 = some 23 := by rw [e_S22]; exact (congrFun (if_neg (by rw [hN]; decide)) _).trans hR0_2
  clear hc hE hR hK0 hK1 hK15 hK23  hR0_0 hR0_1 hR0_2
  have hN := hN9
  have hc := hc9
  have hE := hE9
  have hR := hR9
  have hK0 := hK09
  have hK1 := hK19
  have hR0_0 := hR0_09
  have hK15 := hK159
  have hR0_1 := hR0_19
  have hK23 := hK239
  have hR0_2 := hR0_29
  have hK30 : S22.2.2.1 30 = 3 := by rw [e_S22]; exact if_pos hM9.symm
  clear hM9
  refine V_dup dX7_init_53 rfl ?_
  refine V_aload_n dX7_init_54 rfl rfl ?_
  refine V_getr dX7_init_55 fl_RX7_21 (by rw [hN]; decide) hK0 rfl hR0_1 ?_
  refine V_callIk (st := [.ref 30, .ref 0]) [.ref 15] dX7_init_58 ok_mX3_init rfl ml_RX7_36 in_mX3_init rfl rfl (Nat.le_of_ble_eq_true rfl) (by decide) (by decide) (by decide) (q_vbn hN rfl) (q_vbn hN rfl) (s_X3_init_at30 hN hc hK30 h) (fun S25 I26 J27 hE8 hc8 hN8 hR8 h => ?_)
  have hN9 : S25.2.1 = 37 := by rw [hN8, hN]
  have hE9 := hE.tr hE8
  have hR9 := hR.call hE hR8 (by rw [hN0]; decide)
  have hK09 : S25.2.2.1 0 = 7 := (hE8.2.1 0 (by rw [hN]; decide)).2.1.trans hK0
  have hK19 : S25.2.2.1 1 = 4 := (hE8.2.1 1 (by rw [hN]; decide)).2.1.trans hK1
  have hR0_09 : S25.2.2.2.2 0 0 = some 1 := (congrFun (hR8 0 (by rw [hN]; decide) (by decide)) _).trans hR0_0
  have hK159 : S25.2.2.1 15 = 2 := (hE8.2.1 15 (by rw [hN]; decide)).2.1.trans hK15
  have hR0_19 : S25.2.2.2.2 0 1 = some 15 := (congrFun (hR8 0 (by rw [hN]; decide) (by decide)) _).trans hR0_1
  have hK239 : S25.2.2.1 23 = 0 := (hE8.2.1 23 (by rw [hN]; decide)).2.1.trans hK23
  have hR0_29 : S25.2.2.2.2 0 2 = some 23 := (congrFun (hR8 0 (by rw [hN]; decide) (by decide)) _).trans hR0_2
  have hK309 : S25.2.2.1 30 = 3 := (hE8.2.1 30 (by rw [hN]; decide)).2.1.trans hK30
  clear hc hE hR hK0 hK1 hK15 hK23 hK30  hR0_0 hR0_1 hR0_2
  have hN := hN9
  have hc := hc8
  have hE := hE9
  have hR := hR9
  have hK0 := hK09
  have hK1 := hK19
  have hR0_0 := hR0_09
  have hK15 := hK159
  have hR0_1 := hR0_19
  have hK23 := hK239
  have hR0_2 := hR0_29
  have hK30 := hK309
  refine V_putF dX7_init_61 fl_RX7_39 rfl rfl rfl (by rw [hN]; decide) hK0 rfl (fun _ => rfl) (fun _ => rfl) ?_
  refine V_memS (fun S28 e_S28 => ?_)
  replace h := h S28 e_S28
  have hN9 : S28.2.1 = 37 := by rw [e_S28]; exact hN
  have hc9 : q_cl S28 := by rw [e_S28]; exact q_cl_put hc (by rw [hN]; decide)
  have hE9 : Ex S S28 := by rw [e_S28]; exact hE.tr (Ex.put _ _)
  have hR9 : q_Rk 0 S S28 := by rw [e_S28]; exact hR.put (Or.inl rfl)
  have hK09 : S28.2.2.1 0 = 7 := by rw [e_S28]; exact hK0
  have hK19 : S28.2.2.1 1 = 4 := by rw [e_S28]; exact hK1
  have hR0_09 : S28.2.2.2.2 0 0 = some 1 := by rw [e_S28]; exact (if_neg (t := some 30) (show ¬ ((0 : Nat) = 0 ∧ (0 : Nat) = 3) by decide)).trans hR0_0
  have hK159 : S28.2.2.1 15 = 2 := by rw [e_S28]; exact hK15
  have hR0_19 : S28.2.2.2.2 0 1 = some 15 := by rw [e_S28]; exact (if_neg (t := some 30) (show ¬ ((0 : Nat) = 0 ∧ (1 : Nat) = 3) by decide)).trans hR0_1
  have hK239 : S28.2.2.1 23 = 0 := by rw [e_S28]; exact hK23
  have hR0_29 : S28.2.2.2.2 0 2 = some 23 := by rw [e_S28]; exact (if_neg (t := some 30) (show ¬ ((0 : Nat) = 0 ∧ (2 : Nat) = 3) by decide)).trans hR0_2
  have hK309 : S28.2.2.1 30 = 3 := by rw [e_S28]; exact hK30
  clear hc hE hR hK0 hK1 hK15 hK23 hK30  hR0_0 hR0_1 hR0_2
  have hN := hN9
  have hc := hc9
  have hE := hE9
  have hR := hR9
  have hK0 := hK09
  have hK1 := hK19
  have hR0_0 := hR0_09
  have hK15 := hK159
  have hR0_1 := hR0_19
  have hK23 := hK239
  have hR0_2 := hR0_29
  have hK30 := hK309
  have hR0_3 : S28.2.2.2.2 0 3 = some 30 := by rw [e_S28]; exact q_u2_s S25.2.2.2.2 0 3 (some 30)
  refine V_aload_n dX7_init_64 rfl rfl ?_
  refine V_new (ci := 1) dX7_init_65 (by decide) cl_RX7_43 is_RX1 ii_RX1 (by rw [hN]; decide) hc (q_vbn hN rfl) (q_vbn hN rfl) (by decide) (by decide) (fun a30 => ?_)
  rw [hN]
  refine V_memS (fun S29 e_S29 => ?_)
  refine V_memI (fun I31 e_I31 => ?_)
  replace h := h a30 S29 e_S29 I31 e_I31
  have hM9 := hN
  have hN9 : S29.2.1 = 38 := by rw [e_S29]; show _ + 1 = 38; rw [hN]
  have hc9 : q_cl S29 := by rw [e_S29]; exact q_cl_new hc _ _ _
  have hE9 : Ex S S29 := by rw [e_S29]; exact hE.tr (Ex.new _ (by rw [hN]; decide) _ _ _)
  have hR9 : q_Rk 0 S S29 := by rw [e_S29]; exact hR.new hE.1 _ _ _
  have hK09 : S29.2.2.1 0 = 7 := by rw [e_S29]; exact (if_neg (by rw [hN]; decide)).trans hK0
  have hK19 : S29.2.2.1 1 = 4 := by rw [e_S29]; exact (if_neg (by rw [hN]; decide)).trans hK1
  have hR0_09 : S29.2.2.2.2 0 0 = some 1 := by rw [e_S29]; exact (congrFun (if_neg (by rw [hN]; decide)) _).trans hR0_0
  have hK159 : S29.2.2.1 15 = 2 := by rw [e_S29]; exact (if_neg (by rw [hN]; decide)).trans hK15
  have hR0_19 : S29.2.2.2.2 0 1 = some 15 := by rw [e_S29]; exact (congrFun (if_neg (by rw [hN]; decide)) _).trans hR0_1
  have hK239 : S29.2.2.1 23 = 0 := by rw [e_S29]; exact (if_neg (by rw [hN]; decide)).trans hK23
  have hR0_29 : S29.2.2.2.2 0 2 = some 23 := by rw [e_S29]; exact (congrFun (if_neg (by rw [hN]; decide)) _).trans hR0_2
  have hK309 : S29.2.2.1 30 = 3 := by rw [e_S29]; exact (if_neg (by rw [hN]; decide)).trans hK30
  have hR0_39 : S29.2.2.2.2 0 3 = some 30 := by rw [e_S29]; exact (congrFun (if_neg (by rw [hN]; decide)) _).trans hR0_3
  clear hc hE hR hK0 hK1 hK15 hK23 hK30  hR0_0 hR0_1 hR0_2 hR0_3
  have hN := hN9
  have hc := hc9
  have hE := hE9
  have hR := hR9
  have hK0 := hK09
  have hK1 := hK19
  have hR0_0 := hR0_09
  have hK15 := hK159
  have hR0_1 := hR0_19
  have hK23 := hK239
  have hR0_2 := hR0_29
  have hK30 := hK309
  have hR0_3 := hR0_39
  have hK37 : S29.2.2.1 37 = 1 := by rw [e_S29]; exact if_pos hM9.symm
  clear hM9
  refine V_dup dX7_init_68 rfl ?_
  refine V_aload_n dX7_init_69 rfl rfl ?_
  refine V_getr dX7_init_70 fl_RX7_10 (by rw [hN]; decide) hK0 rfl hR0_0 ?_
  refine V_callIk (st := [.ref 37, .ref 0]) [.ref 1] dX7_init_73 ok_mX1_init rfl ml_RX7_45 in_mX1_init rfl rfl (Nat.le_of_ble_eq_true rfl) (by decide) (by decide) (by decide) (q_vbn hN rfl) (q_vbn hN rfl) (s_X1_init_at37 hN hc hK37 h) (fun S32 I33 J34 hE8 hc8 hN8 hR8 h => ?_)
  have hN9 : S32.2.1 = 46 := by rw [hN8, hN]
  have hE9 := hE.tr hE8
  have hR9 := hR.call hE hR8 (by rw [hN0]; decide)
  have hK09 : S32.2.2.1 0 = 7 := (hE8.2.1 0 (by rw [hN]; decide)).2.1.trans hK0
  have hK19 : S32.2.2.1 1 = 4 := (hE8.2.1 1 (by rw [hN]; decide)).2.1.trans hK1
  have hR0_09 : S32.2.2.2.2 0 0 = some 1 := (congrFun (hR8 0 (by rw [hN]; decide) (by decide)) _).trans hR0_0
  have hK159 : S32.2.2.1 15 = 2 := (hE8.2.1 15 (by rw [hN]; decide)).2.1.trans hK15
  have hR0_19 : S32.2.2.2.2 0 1 = some 15 := (congrFun (hR8 0 (by rw [hN]; decide) (by decide)) _).trans hR0_1
  have hK239 : S32.2.2.1 23 = 0 := (hE8.2.1 23 (by rw [hN]; decide)).2.1.trans hK23
  have hR0_29 : S32.2.2.2.2 0 2 = some 23 := (congrFun (hR8 0 (by rw [hN]; decide) (by decide)) _).trans hR0_2
  have hK309 : S32.2.2.1 30 = 3 := (hE8.2.1 30 (by rw [hN]; decide)).2.1.trans hK30
  have hR0_39 : S32.2.2.2.2 0 3 = some 30 := (congrFun (hR8 0 (by rw [hN]; decide) (by decide)) _).trans hR0_3
  have hK379 : S32.2.2.1 37 = 1 := (hE8.2.1 37 (by rw [hN]; decide)).2.1.trans hK37
  clear hc hE hR hK0 hK1 hK15 hK23 hK30 hK37  hR0_0 hR0_1 hR0_2 hR0_3
  have hN := hN9
  have hc := hc8
  have hE := hE9
  have hR := hR9
  have hK0 := hK09
  have hK1 := hK19
  have hR0_0 := hR0_09
  have hK15 := hK159
  have hR0_1 := hR0_19
  have hK23 := hK239
  have hR0_2 := hR0_29
  have hK30 := hK309
  have hR0_3 := hR0_39
  have hK37 := hK379
  refine V_putF dX7_init_76 fl_RX7_46 rfl rfl rfl (by rw [hN]; decide) hK0 rfl (fun _ => rfl) (fun _ => rfl) ?_
  refine V_memS (fun S35 e_S35 => ?_)
  replace h := h S35 e_S35
  have hN9 : S35.2.1 = 46 := by rw [e_S35]; exact hN
  have hc9 : q_cl S35 := by rw [e_S35]; exact q_cl_put hc (by rw [hN]; decide)
  have hE9 : Ex S S35 := by rw [e_S35]; exact hE.tr (Ex.put _ _)
  have hR9 : q_Rk 0 S S35 := by rw [e_S35]; exact hR.put (Or.inl rfl)
  have hK09 : S35.2.2.1 0 = 7 := by rw [e_S35]; exact hK0
  have hK19 : S35.2.2.1 1 = 4 := by rw [e_S35]; exact hK1
  have hR0_09 : S35.2.2.2.2 0 0 = some 1 := by rw [e_S35]; exact (if_neg (t := some 37) (show ¬ ((0 : Nat) = 0 ∧ (0 : Nat) = 4) by decide)).trans hR0_0
  have hK159 : S35.2.2.1 15 = 2 := by rw [e_S35]; exact hK15
  have hR0_19 : S35.2.2.2.2 0 1 = some 15 := by rw [e_S35]; exact (if_neg (t := some 37) (show ¬ ((0 : Nat) = 0 ∧ (1 : Nat) = 4) by decide)).trans hR0_1
  have hK239 : S35.2.2.1 23 = 0 := by rw [e_S35]; exact hK23
  have hR0_29 : S35.2.2.2.2 0 2 = some 23 := by rw [e_S35]; exact (if_neg (t := some 37) (show ¬ ((0 : Nat) = 0 ∧ (2 : Nat) = 4) by decide)).trans hR0_2
  have hK309 : S35.2.2.1 30 = 3 := by rw [e_S35]; exact hK30
  have hR0_39 : S35.2.2.2.2 0 3 = some 30 := by rw [e_S35]; exact (if_neg (t := some 37) (show ¬ ((0 : Nat) = 0 ∧ (3 : Nat) = 4) by decide)).trans hR0_3
  have hK379 : S35.2.2.1 37 = 1 := by rw [e_S35]; exact hK37
  clear hc hE hR hK0 hK1 hK15 hK23 hK30 hK37  hR0_0 hR0_1 hR0_2 hR0_3
  have hN := hN9
  have hc := hc9
  have hE := hE9
  have hR := hR9
  have hK0 := hK09
  have hK1 := hK19
  have hR0_0 := hR0_09
  have hK15 := hK159
  have hR0_1 := hR0_19
  have hK23 := hK239
  have hR0_2 := hR0_29
  have hK30 := hK309
  have hR0_3 := hR0_39
  have hK37 := hK379
  have hR0_4 : S35.2.2.2.2 0 4 = some 37 := by rw [e_S35]; exact q_u2_s S32.2.2.2.2 0 4 (some 37)
  refine V_aload_n dX7_init_79 rfl rfl ?_
  refine V_new (ci := 6) dX7_init_80 (by decide) cl_RX7_50 is_RX6 ii_RX6 (by rw [hN]; decide) hc (q_vbn hN rfl) (q_vbn hN rfl) (by decide) (by decide) (fun a37 => ?_)
  rw [hN]
  refine V_memS (fun S36 e_S36 => ?_)
  refine V_memI (fun I38 e_I38 => ?_)
  replace h := h a37 S36 e_S36 I38 e_I38
  have hM9 := hN
  have hN9 : S36.2.1 = 47 := by rw [e_S36]; show _ + 1 = 47; rw [hN]
  have hc9 : q_cl S36 := by rw [e_S36]; exact q_cl_new hc _ _ _
  have hE9 : Ex S S36 := by rw [e_S36]; exact hE.tr (Ex.new _ (by rw [hN]; decide) _ _ _)
  have hR9 : q_Rk 0 S S36 := by rw [e_S36]; exact hR.new hE.1 _ _ _
  have hK09 : S36.2.2.1 0 = 7 := by rw [e_S36]; exact (if_neg (by rw [hN]; decide)).trans hK0
  have hK19 : S36.2.2.1 1 = 4 := by rw [e_S36]; exact (if_neg (by rw [hN]; decide)).trans hK1
  have hR0_09 : S36.2.2.2.2 0 0 = some 1 := by rw [e_S36]; exact (congrFun (if_neg (by rw [hN]; decide)) _).trans hR0_0
  have hK159 : S36.2.2.1 15 = 2 := by rw [e_S36]; exact (if_neg (by rw [hN]; decide)).trans hK15
  have hR0_19 : S36.2.2.2.2 0 1 = some 15 := by rw [e_S36]; exact (congrFun (if_neg (by rw [hN]; decide)) _).trans hR0_1
  have hK239 : S36.2.2.1 23 = 0 := by rw [e_S36]; exact (if_neg (by rw [hN]; decide)).trans hK23
  have hR0_29 : S36.2.2.2.2 0 2 = some 23 := by rw [e_S36]; exact (congrFun (if_neg (by rw [hN]; decide)) _).trans hR0_2
  have hK309 : S36.2.2.1 30 = 3 := by rw [e_S36]; exact (if_neg (by rw [hN]; decide)).trans hK30
  have hR0_39 : S36.2.2.2.2 0 3 = some 30 := by rw [e_S36]; exact (congrFun (if_neg (by rw [hN]; decide)) _).trans hR0_3
  have hK379 : S36.2.2.1 37 = 1 := by rw [e_S36]; exact (if_neg (by rw [hN]; decide)).trans hK37
  have hR0_49 : S36.2.2.2.2 0 4 = some 37 := by rw [e_S36]; exact (congrFun (if_neg (by rw [hN]; decide)) _).trans hR0_4
  clear hc hE hR hK0 hK1 hK15 hK23 hK30 hK37  hR0_0 hR0_1 hR0_2 hR0_3 hR0_4
  have hN := hN9
  have hc := hc9
  have hE := hE9
  have hR := hR9
  have hK0 := hK09
  have hK1 := hK19
  have hR0_0 := hR0_09
  have hK15 := hK159
  have hR0_1 := hR0_19
  have hK23 := hK239
  have hR0_2 := hR0_29
  have hK30 := hK309
  have hR0_3 := hR0_39
  have hK37 := hK379
  have hR0_4 := hR0_49
  have hK46 : S36.2.2.1 46 = 6 := by rw [e_S36]; exact if_pos hM9.symm
  clear hM9
  refine V_dup dX7_init_83 rfl ?_
  refine V_aload_n dX7_init_84 rfl rfl ?_
  refine V_getr dX7_init_85 fl_RX7_10 (by rw [hN]; decide) hK0 rfl hR0_0 ?_
  refine V_callIk (st := [.ref 46, .ref 0]) [.ref 1] dX7_init_88 ok_mX6_init rfl ml_RX7_52 in_mX6_init rfl rfl (Nat.le_of_ble_eq_true rfl) (by decide) (by decide) (by decide) (q_vbn hN rfl) (q_vbn hN rfl) (s_X6_init_at46 hN hc hK46 h) (fun S39 I40 J41 hE8 hc8 hN8 hR8 h => ?_)
  have hN9 : S39.2.1 = 51 := by rw [hN8, hN]
  have hE9 := hE.tr hE8
  have hR9 := hR.call hE hR8 (by rw [hN0]; decide)
  have hK09 : S39.2.2.1 0 = 7 := (hE8.2.1 0 (by rw [hN]; decide)).2.1.trans hK0
  have hK19 : S39.2.2.1 1 = 4 := (hE8.2.1 1 (by rw [hN]; decide)).2.1.trans hK1
  have hR0_09 : S39.2.2.2.2 0 0 = some 1 := (congrFun (hR8 0 (by rw [hN]; decide) (by decide)) _).trans hR0_0
  have hK159 : S39.2.2.1 15 = 2 := (hE8.2.1 15 (by rw [hN]; decide)).2.1.trans hK15
  have hR0_19 : S39.2.2.2.2 0 1 = some 15 := (congrFun (hR8 0 (by rw [hN]; decide) (by decide)) _).trans hR0_1
  have hK239 : S39.2.2.1 23 = 0 := (hE8.2.1 23 (by rw [hN]; decide)).2.1.trans hK23
  have hR0_29 : S39.2.2.2.2 0 2 = some 23 := (congrFun (hR8 0 (by rw [hN]; decide) (by decide)) _).trans hR0_2
  have hK309 : S39.2.2.1 30 = 3 := (hE8.2.1 30 (by rw [hN]; decide)).2.1.trans hK30
  have hR0_39 : S39.2.2.2.2 0 3 = some 30 := (congrFun (hR8 0 (by rw [hN]; decide) (by decide)) _).trans hR0_3
  have hK379 : S39.2.2.1 37 = 1 := (hE8.2.1 37 (by rw [hN]; decide)).2.1.trans hK37
  have hR0_49 : S39.2.2.2.2 0 4 = some 37 := (congrFun (hR8 0 (by rw [hN]; decide) (by decide)) _).trans hR0_4
  have hK469 : S39.2.2.1 46 = 6 := (hE8.2.1 46 (by rw [hN]; decide)).2.1.trans hK46
  clear hc hE hR hK0 hK1 hK15 hK23 hK30 hK37 hK46  hR0_0 hR0_1 hR0_2 hR0_3 hR0_4
  have hN := hN9
  have hc := hc8
  have hE := hE9
  have hR := hR9
  have hK0 := hK09
  have hK1 := hK19
  have hR0_0 := hR0_09
  have hK15 := hK159
  have hR0_1 := hR0_19
  have hK23 := hK239
  have hR0_2 := hR0_29
  have hK30 := hK309
  have hR0_3 := hR0_39
  have hK37 := hK379
  have hR0_4 := hR0_49
  have hK46 := hK469
  refine V_putF dX7_init_91 fl_RX7_53 rfl rfl rfl (by rw [hN]; decide) hK0 rfl (fun _ => rfl) (fun _ => rfl) ?_
  refine V_memS (fun S42 e_S42 => ?_)
  replace h := h S42 e_S42
  have hN9 : S42.2.1 = 51 := by rw [e_S42]; exact hN
  have hc9 : q_cl S42 := by rw [e_S42]; exact q_cl_put hc (by rw [hN]; decide)
  have hE9 : Ex S S42 := by rw [e_S42]; exact hE.tr (Ex.put _ _)
  have hR9 : q_Rk 0 S S42 := by rw [e_S42]; exact hR.put (Or.inl rfl)
  have hK09 : S42.2.2.1 0 = 7 := by rw [e_S42]; exact hK0
  have hK19 : S42.2.2.1 1 = 4 := by rw [e_S42]; exact hK1
  have hR0_09 : S42.2.2.2.2 0 0 = some 1 := by rw [e_S42]; exact (if_neg (t := some 46) (show ¬ ((0 : Nat) = 0 ∧ (0 : Nat) = 5) by decide)).trans hR0_0
  have hK159 : S42.2.2.1 15 = 2 := by rw [e_S42]; exact hK15
  have hR0_19 : S42.2.2.2.2 0 1 = some 15 := by rw [e_S42]; exact (if_neg (t := some 46) (show ¬ ((0 : Nat) = 0 ∧ (1 : Nat) = 5) by decide)).trans hR0_1
  have hK239 : S42.2.2.1 23 = 0 := by rw [e_S42]; exact hK23
  have hR0_29 : S42.2.2.2.2 0 2 = some 23 := by rw [e_S42]; exact (if_neg (t := some 46) (show ¬ ((0 : Nat) = 0 ∧ (2 : Nat) = 5) by decide)).trans hR0_2
  have hK309 : S42.2.2.1 30 = 3 := by rw [e_S42]; exact hK30
  have hR0_39 : S42.2.2.2.2 0 3 = some 30 := by rw [e_S42]; exact (if_neg (t := some 46) (show ¬ ((0 : Nat) = 0 ∧ (3 : Nat) = 5) by decide)).trans hR0_3
  have hK379 : S42.2.2.1 37 = 1 := by rw [e_S42]; exact hK37
  have hR0_49 : S42.2.2.2.2 0 4 = some 37 := by rw [e_S42]; exact (if_neg (t := some 46) (show ¬ ((0 : Nat) = 0 ∧ (4 : Nat) = 5) by decide)).trans hR0_4
  have hK469 : S42.2.2.1 46 = 6 := by rw [e_S42]; exact hK46
  clear hc hE hR hK0 hK1 hK15 hK23 hK30 hK37 hK46  hR0_0 hR0_1 hR0_2 hR0_3 hR0_4
  have hN := hN9
  have hc := hc9
  have hE := hE9
  have hR := hR9
  have hK0 := hK09
  have hK1 := hK19
  have hR0_0 := hR0_09
  have hK15 := hK159
  have hR0_1 := hR0_19
  have hK23 := hK239
  have hR0_2 := hR0_29
  have hK30 := hK309
  have hR0_3 := hR0_39
  have hK37 := hK379
  have hR0_4 := hR0_49
  have hK46 := hK469
  have hR0_5 : S42.2.2.2.2 0 5 = some 46 := by rw [e_S42]; exact q_u2_s S39.2.2.2.2 0 5 (some 46)
  refine V_aload_n dX7_init_94 rfl rfl ?_
  refine V_ldc dX7_init_95 co_RX7_57 ?_
  refine V_puti dX7_init_97 fl_RX7_58 rfl (by rw [hN]; decide) hK0 rfl rfl rfl ?_
  refine V_memI (fun I43 e_I43 => ?_)
  replace h := h I43 e_I43
  exact V_vret dX7_init_100 rfl (by decide) (by decide) ⟨rfl, hE, hc, by rw [hN, hN0], hR, h⟩
