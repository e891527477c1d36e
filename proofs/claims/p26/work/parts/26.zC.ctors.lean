def w_X5_init_at54 (S : QS) (I : QI) (J : QJ) (post : QS → QI → QJ → Prop) : Prop := (∀ a2 : Nat, ∀ S1 : QS, S1 = q_nS S a2 9 30 → (∀ I3 : QI, I3 = q_rw I 55 (fun _ => 0) → (∀ S4 : QS, S4 = q_sR S1 (q_u2 S1.2.2.2.2 54 0 (some 55)) → (∀ a6 : Nat, ∀ S5 : QS, S5 = q_nS S4 a6 11 10 → (∀ I7 : QI, I7 = q_rw I3 56 (fun _ => 0) → (∀ S8 : QS, S8 = q_sR S5 (q_u2 S5.2.2.2.2 54 1 (some 56)) → (post S8 I7 J)))))))
set_option maxRecDepth 100000 in
set_option maxHeartbeats 4000000 in
theorem s_X5_init_at54 {X : QX} {S : QS} {I : QI} {J : QJ} {post : QS → QI → QJ → Prop} (hN : S.2.1 = 55) (hc : q_cl S) (hK54 : S.2.2.1 54 = 5) (h : w_X5_init_at54 S I J post) : CX X mX5_init 1 2 40 [.ref 54] S I J (q_Pk 54 S 2 post) := by
  have hN0 := hN
  have hE : Ex S S := Ex.rf
  have hR : q_Rk 54 S S := q_Rk.rf
  refine CX.of (lo := [(0, .ref 54)]) ok_mX5_init rfl (Nat.le_of_ble_eq_true rfl) rfl ?_
  replace h : (∀ a2 : Nat, ∀ S1 : QS, S1 = q_nS S a2 9 30 → (∀ I3 : QI, I3 = q_rw I 55 (fun _ => 0) → (∀ S4 : QS, S4 = q_sR S1 (q_u2 S1.2.2.2.2 54 0 (some 55)) → (∀ a6 : Nat, ∀ S5 : QS, S5 = q_nS S4 a6 11 10 → (∀ I7 : QI, I7 = q_rw I3 56 (fun _ => 0) → (∀ S8 : QS, S8 = q_sR S5 (q_u2 S5.2.2.2.2 54 1 (some 56)) → (post S8 I7 J))))))) := h
  refine V_aload_n dX5_init_0 rfl rfl ?_
  refine V_objInit dX5_init_1 ml_RX5_3 ob_in ob_co (Nat.le_of_ble_eq_true rfl) ?_
  refine V_aload_n dX5_init_4 rfl rfl ?_
  refine V_bipush (v := 30) dX5_init_5 (by decide) ?_
  refine V_newI (z := 30) dX5_init_7 ac_int (by decide) (by decide) (by decide) (by rw [hN]; decide) hc (q_vbn hN rfl) (q_vbn hN rfl) (by decide) (by decide) (fun a2 => ?_)
  rw [hN]
  refine V_memS (fun S1 e_S1 => ?_)
  refine V_memI (fun I3 e_I3 => ?_)
  replace h := h a2 S1 e_S1 I3 e_I3
  have hM9 := hN
  have hN9 : S1.2.1 = 56 := by rw [e_S1]; show _ + 1 = 56; rw [hN]
  have hc9 : q_cl S1 := by rw [e_S1]; exact q_cl_new hc _ _ _
  have hE9 : Ex S S1 := by rw [e_S1]; exact hE.tr (Ex.new _ (by rw [hN]; decide) _ _ _)
  have hR9 : q_Rk 54 S S1 := by rw [e_S1]; exact hR.new hE.1 _ _ _
  have hK549 : S1.2.2.1 54 = 5 := by rw [e_S1]; exact (if_neg (by rw [hN]; decide)).trans hK54
  clear hc hE hR hK54  
  have hN := hN9
  have hc := hc9
  have hE := hE9
  have hR := hR9
  have hK54 := hK549
  clear hM9
  refine V_putF dX5_init_9 fl_RX5_9 rfl rfl rfl (by rw [hN]; decide) hK54 rfl (fun _ => rfl) (fun _ => rfl) ?_
  refine V_memS (fun S4 e_S4 => ?_)
  replace h := h S4 e_S4
  have hN9 : S4.2.1 = 56 := by rw [e_S4]; exact hN
  have hc9 : q_cl S4 := by rw [e_S4]; exact q_cl_put hc (by rw [hN]; decide)
  have hE9 : Ex S S4 := by rw [e_S4]; exact hE.tr (Ex.put _ _)
  have hR9 : q_Rk 54 S S4 := by rw [e_S4]; exact hR.put (Or.inl rfl)
  have hK549 : S4.2.2.1 54 = 5 := by rw [e_S4]; exact hK54
  clear hc hE hR hK54  
  have hN := hN9
  have hc := hc9
  have hE := hE9
  have hR := hR9
  have hK54 := hK549
  refine V_aload_n dX5_init_12 rfl rfl ?_
  refine V_bipush (v := 10) dX5_init_13 (by decide) ?_
  refine V_newZ (z := 10) dX5_init_15 ac_boolean (by decide) (by decide) (by decide) (by rw [hN]; decide) hc (q_vbn hN rfl) (q_vbn hN rfl) (by decide) (by decide) (fun a6 => ?_)
  rw [hN]
  refine V_memS (fun S5 e_S5 => ?_)
  refine V_memI (fun I7 e_I7 => ?_)
  replace h := h a6 S5 e_S5 I7 e_I7
  have hM9 := hN
  have hN9 : S5.2.1 = 57 := by rw [e_S5]; show _ + 1 = 57; rw [hN]
  have hc9 : q_cl S5 := by rw [e_S5]; exact q_cl_new hc _ _ _
  have hE9 : Ex S S5 := by rw [e_S5]; exact hE.tr (Ex.new _ (by rw [hN]; decide) _ _ _)
  have hR9 : q_Rk 54 S S5 := by rw [e_S5]; exact hR.new hE.1 _ _ _
  have hK549 : S5.2.2.1 54 = 5 := by rw [e_S5]; exact (if_neg (by rw [hN]; decide)).trans hK54
  clear hc hE hR hK54  
  have hN := hN9
  have hc := hc9
  have hE := hE9
  have hR := hR9
  have hK54 := hK549
  clear hM9
  refine V_putF dX5_init_17 fl_RX5_15 rfl rfl rfl (by rw [hN]; decide) hK54 rfl (fun _ => rfl) (fun _ => rfl) ?_
  refine V_memS (fun S8 e_S8 => ?_)
  replace h := h S8 e_S8
  have hN9 : S8.2.1 = 57 := by rw [e_S8]; exact hN
  have hc9 : q_cl S8 := by rw [e_S8]; exact q_cl_put hc (by rw [hN]; decide)
  have hE9 : Ex S S8 := by rw [e_S8]; exact hE.tr (Ex.put _ _)
  have hR9 : q_Rk 54 S S8 := by rw [e_S8]; exact hR.put (Or.inl rfl)
  have hK549 : S8.2.2.1 54 = 5 := by rw [e_S8]; exact hK54
  clear hc hE hR hK54  
  have hN := hN9
  have hc := hc9
  have hE := hE9
  have hR := hR9
  have hK54 := hK549
  exact V_vret dX5_init_20 rfl (by decide) (by decide) ⟨rfl, hE, hc, by rw [hN, hN0], hR, h⟩
def w_X5_init_at57 (S : QS) (I : QI) (J : QJ) (post : QS → QI → QJ → Prop) : Prop := (∀ a2 : Nat, ∀ S1 : QS, S1 = q_nS S a2 9 30 → (∀ I3 : QI, I3 = q_rw I 58 (fun _ => 0) → (∀ S4 : QS, S4 = q_sR S1 (q_u2 S1.2.2.2.2 57 0 (some 58)) → (∀ a6 : Nat, ∀ S5 : QS, S5 = q_nS S4 a6 11 10 → (∀ I7 : QI, I7 = q_rw I3 59 (fun _ => 0) → (∀ S8 : QS, S8 = q_sR S5 (q_u2 S5.2.2.2.2 57 1 (some 59)) → (post S8 I7 J)))))))
set_option maxRecDepth 100000 in
set_option maxHeartbeats 4000000 in
theorem s_X5_init_at57 {X : QX} {S : QS} {I : QI} {J : QJ} {post : QS → QI → QJ → Prop} (hN : S.2.1 = 58) (hc : q_cl S) (hK57 : S.2.2.1 57 = 5) (h : w_X5_init_at57 S I J post) : CX X mX5_init 1 2 40 [.ref 57] S I J (q_Pk 57 S 2 post) := by
  have hN0 := hN
  have hE : Ex S S := Ex.rf
  have hR : q_Rk 57 S S := q_Rk.rf
  refine CX.of (lo := [(0, .ref 57)]) ok_mX5_init rfl (Nat.le_of_ble_eq_true rfl) rfl ?_
  replace h : (∀ a2 : Nat, ∀ S1 : QS, S1 = q_nS S a2 9 30 → (∀ I3 : QI, I3 = q_rw I 58 (fun _ => 0) → (∀ S4 : QS, S4 = q_sR S1 (q_u2 S1.2.2.2.2 57 0 (some 58)) → (∀ a6 : Nat, ∀ S5 : QS, S5 = q_nS S4 a6 11 10 → (∀ I7 : QI, I7 = q_rw I3 59 (fun _ => 0) → (∀ S8 : QS, S8 = q_sR S5 (q_u2 S5.2.2.2.2 57 1 (some 59)) → (post S8 I7 J))))))) := h
  refine V_aload_n dX5_init_0 rfl rfl ?_
  refine V_objInit dX5_init_1 ml_RX5_3 ob_in ob_co (Nat.le_of_ble_eq_true rfl) ?_
  refine V_aload_n dX5_init_4 rfl rfl ?_
  refine V_bipush (v := 30) dX5_init_5 (by decide) ?_
  refine V_newI (z := 30) dX5_init_7 ac_int (by decide) (by decide) (by decide) (by rw [hN]; decide) hc (q_vbn hN rfl) (q_vbn hN rfl) (by decide) (by decide) (fun a2 => ?_)
  rw [hN]
  refine V_memS (fun S1 e_S1 => ?_)
  refine V_memI (fun I3 e_I3 => ?_)
  replace h := h a2 S1 e_S1 I3 e_I3
  have hM9 := hN
  have hN9 : S1.2.1 = 59 := by rw [e_S1]; show _ + 1 = 59; rw [hN]
  have hc9 : q_cl S1 := by rw [e_S1]; exact q_cl_new hc _ _ _
  have hE9 : Ex S S1 := by rw [e_S1]; exact hE.tr (Ex.new _ (by rw [hN]; decide) _ _ _)
  have hR9 : q_Rk 57 S S1 := by rw [e_S1]; exact hR.new hE.1 _ _ _
  have hK579 : S1.2.2.1 57 = 5 := by rw [e_S1]; exact (if_neg (by rw [hN]; decide)).trans hK57
  clear hc hE hR hK57  
  have hN := hN9
  have hc := hc9
  have hE := hE9
  have hR := hR9
  have hK57 := hK579
  clear hM9
  refine V_putF dX5_init_9 fl_RX5_9 rfl rfl rfl (by rw [hN]; decide) hK57 rfl (fun _ => rfl) (fun _ => rfl) ?_
  refine V_memS (fun S4 e_S4 => ?_)
  replace h := h S4 e_S4
  have hN9 : S4.2.1 = 59 := by rw [e_S4]; exact hN
  have hc9 : q_cl S4 := by rw [e_S4]; exact q_cl_put hc (by rw [hN]; decide)
  have hE9 : Ex S S4 := by rw [e_S4]; exact hE.tr (Ex.put _ _)
  have hR9 : q_Rk 57 S S4 := by rw [e_S4]; exact hR.put (Or.inl rfl)
  have hK579 : S4.2.2.1 57 = 5 := by rw [e_S4]; exact hK57
  clear hc hE hR hK57  
  have hN := hN9
  have hc := hc9
  have hE := hE9
  have hR := hR9
  have hK57 := hK579
  refine V_aload_n dX5_init_12 rfl rfl ?_
  refine V_bipush (v := 10) dX5_init_13 (by decide) ?_
  refine V_newZ (z := 10) dX5_init_15 ac_boolean (by decide) (by decide) (by decide) (by rw [hN]; decide) hc (q_vbn hN rfl) (q_vbn hN rfl) (by decide) (by decide) (fun a6 => ?_)
  rw [hN]
  refine V_memS (fun S5 e_S5 => ?_)
  refine V_memI (fun I7 e_I7 => ?_)
  replace h := h a6 S5 e_S5 I7 e_I7
  have hM9 := hN
  have hN9 : S5.2.1 = 60 := by rw [e_S5]; show _ + 1 = 60; rw [hN]
  have hc9 : q_cl S5 := by rw [e_S5]; exact q_cl_new hc _ _ _
  have hE9 : Ex S S5 := by rw [e_S5]; exact hE.tr (Ex.new _ (by rw [hN]; decide) _ _ _)
  have hR9 : q_Rk 57 S S5 := by rw [e_S5]; exact hR.new hE.1 _ _ _
  have hK579 : S5.2.2.1 57 = 5 := by rw [e_S5]; exact (if_neg (by rw [hN]; decide)).trans hK57
  clear hc hE hR hK57  
  have hN := hN9
  have hc := hc9
  have hE := hE9
  have hR := hR9
  have hK57 := hK579
  clear hM9
  refine V_putF dX5_init_17 fl_RX5_15 rfl rfl rfl (by rw [hN]; decide) hK57 rfl (fun _ => rfl) (fun _ => rfl) ?_
  refine V_memS (fun S8 e_S8 => ?_)
  replace h := h S8 e_S8
  have hN9 : S8.2.1 = 60 := by rw [e_S8]; exact hN
  have hc9 : q_cl S8 := by rw [e_S8]; exact q_cl_put hc (by rw [hN]; decide)
  have hE9 : Ex S S8 := by rw [e_S8]; exact hE.tr (Ex.put _ _)
  have hR9 : q_Rk 57 S S8 := by rw [e_S8]; exact hR.put (Or.inl rfl)
  have hK579 : S8.2.2.1 57 = 5 := by rw [e_S8]; exact hK57
  clear hc hE hR hK57  
  have hN := hN9
  have hc := hc9
  have hE := hE9
  have hR := hR9
  have hK57 := hK579
  exact V_vret dX5_init_20 rfl (by decide) (by decide) ⟨rfl, hE, hc, by rw [hN, hN0], hR, h⟩
def w_X5_init_at60 (S : QS) (I : QI) (J : QJ) (post : QS → QI → QJ → Prop) : Prop := (∀ a2 : Nat, ∀ S1 : QS, S1 = q_nS S a2 9 30 → (∀ I3 : QI, I3 = q_rw I 61 (fun _ => 0) → (∀ S4 : QS, S4 = q_sR S1 (q_u2 S1.2.2.2.2 60 0 (some 61)) → (∀ a6 : Nat, ∀ S5 : QS, S5 = q_nS S4 a6 11 10 → (∀ I7 : QI, I7 = q_rw I3 62 (fun _ => 0) → (∀ S8 : QS, S8 = q_sR S5 (q_u2 S5.2.2.2.2 60 1 (some 62)) → (post S8 I7 J)))))))
set_option maxRecDepth 100000 in
set_option maxHeartbeats 4000000 in
theorem s_X5_init_at60 {X : QX} {S : QS} {I : QI} {J : QJ} {post : QS → QI → QJ → Prop} (hN : S.2.1 = 61) (hc : q_cl S) (hK60 : S.2.2.1 60 = 5) (h : w_X5_init_at60 S I J post) : CX X mX5_init 1 2 40 [.ref 60] S I J (q_Pk 60 S 2 post) := by
  have hN0 := hN
  have hE : Ex S S := Ex.rf
  have hR : q_Rk 60 S S := q_Rk.rf
  refine CX.of (lo := [(0, .ref 60)]) ok_mX5_init rfl (Nat.le_of_ble_eq_true rfl) rfl ?_
  replace h : (∀ a2 : Nat, ∀ S1 : QS, S1 = q_nS S a2 9 30 → (∀ I3 : QI, I3 = q_rw I 61 (fun _ => 0) → (∀ S4 : QS, S4 = q_sR S1 (q_u2 S1.2.2.2.2 60 0 (some 61)) → (∀ a6 : Nat, ∀ S5 : QS, S5 = q_nS S4 a6 11 10 → (∀ I7 : QI, I7 = q_rw I3 62 (fun _ => 0) → (∀ S8 : QS, S8 = q_sR S5 (q_u2 S5.2.2.2.2 60 1 (some 62)) → (post S8 I7 J))))))) := h
  refine V_aload_n dX5_init_0 rfl rfl ?_
  refine V_objInit dX5_init_1 ml_RX5_3 ob_in ob_co (Nat.le_of_ble_eq_true rfl) ?_
  refine V_aload_n dX5_init_4 rfl rfl ?_
  refine V_bipush (v := 30) dX5_init_5 (by decide) ?_
  refine V_newI (z := 30) dX5_init_7 ac_int (by decide) (by decide) (by decide) (by rw [hN]; decide) hc (q_vbn hN rfl) (q_vbn hN rfl) (by decide) (by decide) (fun a2 => ?_)
  rw [hN]
  refine V_memS (fun S1 e_S1 => ?_)
  refine V_memI (fun I3 e_I3 => ?_)
  replace h := h a2 S1 e_S1 I3 e_I3
  have hM9 := hN
  have hN9 : S1.2.1 = 62 := by rw [e_S1]; show _ + 1 = 62; rw [hN]
  have hc9 : q_cl S1 := by rw [e_S1]; exact q_cl_new hc _ _ _
  have hE9 : Ex S S1 := by rw [e_S1]; exact hE.tr (Ex.new _ (by rw [hN]; decide) _ _ _)
  have hR9 : q_Rk 60 S S1 := by rw [e_S1]; exact hR.new hE.1 _ _ _
  have hK609 : S1.2.2.1 60 = 5 := by rw [e_S1]; exact (if_neg (by rw [hN]; decide)).trans hK60
  clear hc hE hR hK60  
  have hN := hN9
  have hc := hc9
  have hE := hE9
  have hR := hR9
  have hK60 := hK609
  clear hM9
  refine V_putF dX5_init_9 fl_RX5_9 rfl rfl rfl (by rw [hN]; decide) hK60 rfl (fun _ => rfl) (fun _ => rfl) ?_
  refine V_memS (fun S4 e_S4 => ?_)
  replace h := h S4 e_S4
  have hN9 : S4.2.1 = 62 := by rw [e_S4]; exact hN
  have hc9 : q_cl S4 := by rw [e_S4]; exact q_cl_put hc (by rw [hN]; decide)
  have hE9 : Ex S S4 := by rw [e_S4]; exact hE.tr (Ex.put _ _)
  have hR9 : q_Rk 60 S S4 := by rw [e_S4]; exact hR.put (Or.inl rfl)
  have hK609 : S4.2.2.1 60 = 5 := by rw [e_S4]; exact hK60
  clear hc hE hR hK60  
  have hN := hN9
  have hc := hc9
  have hE := hE9
  have hR := hR9
  have hK60 := hK609
  refine V_aload_n dX5_init_12 rfl rfl ?_
  refine V_bipush (v := 10) dX5_init_13 (by decide) ?_
  refine V_newZ (z := 10) dX5_init_15 ac_boolean (by decide) (by decide) (by decide) (by rw [hN]; decide) hc (q_vbn hN rfl) (q_vbn hN rfl) (by decide) (by decide) (fun a6 => ?_)
  rw [hN]
  refine V_memS (fun S5 e_S5 => ?_)
  refine V_memI (fun I7 e_I7 => ?_)
  replace h := h a6 S5 e_S5 I7 e_I7
  have hM9 := hN
  have hN9 : S5.2.1 = 63 := by rw [e_S5]; show _ + 1 = 63; rw [hN]
  have hc9 : q_cl S5 := by rw [e_S5]; exact q_cl_new hc _ _ _
  have hE9 : Ex S S5 := by rw [e_S5]; exact hE.tr (Ex.new _ (by rw [hN]; decide) _ _ _)
  have hR9 : q_Rk 60 S S5 := by rw [e_S5]; exact hR.new hE.1 _ _ _
  have hK609 : S5.2.2.1 60 = 5 := by rw [e_S5]; exact (if_neg (by rw [hN]; decide)).trans hK60
  clear hc hE hR hK60  
  have hN := hN9
  have hc := hc9
  have hE := hE9
  have hR := hR9
  have hK60 := hK609
  clear hM9
  refine V_putF dX5_init_17 fl_RX5_15 rfl rfl rfl (by rw [hN]; decide) hK60 rfl (fun _ => rfl) (fun _ => rfl) ?_
  refine V_memS (fun S8 e_S8 => ?_)
  replace h := h S8 e_S8
  have hN9 : S8.2.1 = 63 := by rw [e_S8]; exact hN
  have hc9 : q_cl S8 := by rw [e_S8]; exact q_cl_put hc (by rw [hN]; decide)
  have hE9 : Ex S S8 := by rw [e_S8]; exact hE.tr (Ex.put _ _)
  have hR9 : q_Rk 60 S S8 := by rw [e_S8]; exact hR.put (Or.inl rfl)
  have hK609 : S8.2.2.1 60 = 5 := by rw [e_S8]; exact hK60
  clear hc hE hR hK60  
  have hN := hN9
  have hc := hc9
  have hE := hE9
  have hR := hR9
  have hK60 := hK609
  exact V_vret dX5_init_20 rfl (by decide) (by decide) ⟨rfl, hE, hc, by rw [hN, hN0], hR, h⟩
def w_X5_init_at63 (S : QS) (I : QI) (J : QJ) (post : QS → QI → QJ → Prop) : Prop := (∀ a2 : Nat, ∀ S1 : QS, S1 = q_nS S a2 9 30 → (∀ I3 : QI, I3 = q_rw I 64 (fun _ => 0) → (∀ S4 : QS, S4 = q_sR S1 (q_u2 S1.2.2.2.2 63 0 (some 64)) → (∀ a6 : Nat, ∀ S5 : QS, S5 = q_nS S4 a6 11 10 → (∀ I7 : QI, I7 = q_rw I3 65 (fun _ => 0) → (∀ S8 : QS, S8 = q_sR S5 (q_u2 S5.2.2.2.2 63 1 (some 65)) → (post S8 I7 J)))))))
set_option maxRecDepth 100000 in
set_option maxHeartbeats 4000000 in
theorem s_X5_init_at63 {X : QX} {S : QS} {I : QI} {J : QJ} {post : QS → QI → QJ → Prop} (hN : S.2.1 = 64) (hc : q_cl S) (hK63 : S.2.2.1 63 = 5) (h : w_X5_init_at63 S I J post) : CX X mX5_init 1 2 40 [.ref 63] S I J (q_Pk 63 S 2 post) := by
  have hN0 := hN
  have hE : Ex S S := Ex.rf
  have hR : q_Rk 63 S S := q_Rk.rf
  refine CX.of (lo := [(0, .ref 63)]) ok_mX5_init rfl (Nat.le_of_ble_eq_true rfl) rfl ?_
  replace h : (∀ a2 : Nat, ∀ S1 : QS, S1 = q_nS S a2 9 30 → (∀ I3 : QI, I3 = q_rw I 64 (fun _ => 0) → (∀ S4 : QS, S4 = q_sR S1 (q_u2 S1.2.2.2.2 63 0 (some 64)) → (∀ a6 : Nat, ∀ S5 : QS, S5 = q_nS S4 a6 11 10 → (∀ I7 : QI, I7 = q_rw I3 65 (fun _ => 0) → (∀ S8 : QS, S8 = q_sR S5 (q_u2 S5.2.2.2.2 63 1 (some 65)) → (post S8 I7 J))))))) := h
  refine V_aload_n dX5_init_0 rfl rfl ?_
  refine V_objInit dX5_init_1 ml_RX5_3 ob_in ob_co (Nat.le_of_ble_eq_true rfl) ?_
  refine V_aload_n dX5_init_4 rfl rfl ?_
  refine V_bipush (v := 30) dX5_init_5 (by decide) ?_
  refine V_newI (z := 30) dX5_init_7 ac_int (by decide) (by decide) (by decide) (by rw [hN]; decide) hc (q_vbn hN rfl) (q_vbn hN rfl) (by decide) (by decide) (fun a2 => ?_)
  rw [hN]
  refine V_memS (fun S1 e_S1 => ?_)
  refine V_memI (fun I3 e_I3 => ?_)
  replace h := h a2 S1 e_S1 I3 e_I3
  have hM9 := hN
  have hN9 : S1.2.1 = 65 := by rw [e_S1]; show _ + 1 = 65; rw [hN]
  have hc9 : q_cl S1 := by rw [e_S1]; exact q_cl_new hc _ _ _
  have hE9 : Ex S S1 := by rw [e_S1]; exact hE.tr (Ex.new _ (by rw [hN]; decide) _ _ _)
  have hR9 : q_Rk 63 S S1 := by rw [e_S1]; exact hR.new hE.1 _ _ _
  have hK639 : S1.2.2.1 63 = 5 := by rw [e_S1]; exact (if_neg (by rw [hN]; decide)).trans hK63
  clear hc hE hR hK63  
  have hN := hN9
  have hc := hc9
  have hE := hE9
  have hR := hR9
  have hK63 := hK639
  clear hM9
  refine V_putF dX5_init_9 fl_RX5_9 rfl rfl rfl (by rw [hN]; decide) hK63 rfl (fun _ => rfl) (fun _ => rfl) ?_
  refine V_memS (fun S4 e_S4 => ?_)
  replace h := h S4 e_S4
  have hN9 : S4.2.1 = 65 := by rw [e_S4]; exact hN
  have hc9 : q_cl S4 := by rw [e_S4]; exact q_cl_put hc (by rw [hN]; decide)
  have hE9 : Ex S S4 := by rw [e_S4]; exact hE.tr (Ex.put _ _)
  have hR9 : q_Rk 63 S S4 := by rw [e_S4]; exact hR.put (Or.inl rfl)
  have hK639 : S4.2.2.1 63 = 5 := by rw [e_S4]; exact hK63
  clear hc hE hR hK63  
  have hN := hN9
  have hc := hc9
  have hE := hE9
  have hR := hR9
  have hK63 := hK639
  refine V_aload_n dX5_init_12 rfl rfl ?_
  refine V_bipush (v := 10) dX5_init_13 (by decide) ?_
  refine V_newZ (z := 10) dX5_init_15 ac_boolean (by decide) (by decide) (by decide) (by rw [hN]; decide) hc (q_vbn hN rfl) (q_vbn hN rfl) (by decide) (by decide) (fun a6 => ?_)
  rw [hN]
  refine V_memS (fun S5 e_S5 => ?_)
  refine V_memI (fun I7 e_I7 => ?_)
  replace h := h a6 S5 e_S5 I7 e_I7
  have hM9 := hN
  have hN9 : S5.2.1 = 66 := by rw [e_S5]; show _ + 1 = 66; rw [hN]
  have hc9 : q_cl S5 := by rw [e_S5]; exact q_cl_new hc _ _ _
  have hE9 : Ex S S5 := by rw [e_S5]; exact hE.tr (Ex.new _ (by rw [hN]; decide) _ _ _)
  have hR9 : q_Rk 63 S S5 := by rw [e_S5]; exact hR.new hE.1 _ _ _
  have hK639 : S5.2.2.1 63 = 5 := by rw [e_S5]; exact (if_neg (by rw [hN]; decide)).trans hK63
  clear hc hE hR hK63  
  have hN := hN9
  have hc := hc9
  have hE := hE9
  have hR := hR9
  have hK63 := hK639
  clear hM9
  refine V_putF dX5_init_17 fl_RX5_15 rfl rfl rfl (by rw [hN]; decide) hK63 rfl (fun _ => rfl) (fun _ => rfl) ?_
  refine V_memS (fun S8 e_S8 => ?_)
  replace h := h S8 e_S8
  have hN9 : S8.2.1 = 66 := by rw [e_S8]; exact hN
  have hc9 : q_cl S8 := by rw [e_S8]; exact q_cl_put hc (by rw [hN]; decide)
  have hE9 : Ex S S8 := by rw [e_S8]; exact hE.tr (Ex.put _ _)
  have hR9 : q_Rk 63 S S8 := by rw [e_S8]; exact hR.put (Or.inl rfl)
  have hK639 : S8.2.2.1 63 = 5 := by rw [e_S8]; exact hK63
  clear hc hE hR hK63  
  have hN := hN9
  have hc := hc9
  have hE := hE9
  have hR := hR9
  have hK63 := hK639
  exact V_vret dX5_init_20 rfl (by decide) (by decide) ⟨rfl, hE, hc, by rw [hN, hN0], hR, h⟩
def w_X4_init_at52 (S : QS) (I : QI) (J : QJ) (post : QS → QI → QJ → Prop) : Prop := (∀ a2 : Nat, ∀ S1 : QS, S1 = q_nS S a2 12 4 → (∀ S3 : QS, S3 = q_sR S1 (q_u2 S1.2.2.2.2 52 0 (some 53)) → (∀ a5 : Nat, ∀ S4 : QS, S4 = q_nS S3 a5 5 0 → (∀ I6 : QI, I6 = q_rw I 54 (fun _ => 0) → (w_X5_init_at54 S4 I6 J (fun S7 I8 J9 => (∀ S10 : QS, S10 = q_sR S7 (q_u2 S7.2.2.2.2 53 (0 : Int32).toNatClampNeg (some 54)) → (∀ a12 : Nat, ∀ S11 : QS, S11 = q_nS S10 a12 5 0 → (∀ I13 : QI, I13 = q_rw I8 57 (fun _ => 0) → (w_X5_init_at57 S11 I13 J9 (fun S14 I15 J16 => (∀ S17 : QS, S17 = q_sR S14 (q_u2 S14.2.2.2.2 53 (1 : Int32).toNatClampNeg (some 57)) → (∀ a19 : Nat, ∀ S18 : QS, S18 = q_nS S17 a19 5 0 → (∀ I20 : QI, I20 = q_rw I15 60 (fun _ => 0) → (w_X5_init_at60 S18 I20 J16 (fun S21 I22 J23 => (∀ S24 : QS, S24 = q_sR S21 (q_u2 S21.2.2.2.2 53 (2 : Int32).toNatClampNeg (some 60)) → (∀ a26 : Nat, ∀ S25 : QS, S25 = q_nS S24 a26 5 0 → (∀ I27 : QI, I27 = q_rw I22 63 (fun _ => 0) → (w_X5_init_at63 S25 I27 J23 (fun S28 I29 J30 => (∀ S31 : QS, S31 = q_sR S28 (q_u2 S28.2.2.2.2 53 (3 : Int32).toNatClampNeg (some 63)) → (∀ I32 : QI, I32 = q_u2 I29 52 2 1 → (post S31 I32 J30))))))))))))))))))))))))
set_option maxRecDepth 100000 in
set_option maxHeartbeats 4000000 in
theorem s_X4_init_at52 {X : QX} {S : QS} {I : QI} {J : QJ} {post : QS → QI → QJ → Prop} (hN : S.2.1 = 53) (hc : q_cl S) (hK52 : S.2.2.1 52 = 4) (h : w_X4_init_at52 S I J post) : CX X mX4_init 2 13 180 [.ref 52] S I J (q_Pk 52 S 13 post) := by
  have hN0 := hN
  have hE : Ex S S := Ex.rf
  have hR : q_Rk 52 S S := q_Rk.rf
  refine CX.of (lo := [(0, .ref 52)]) ok_mX4_init rfl (Nat.le_of_ble_eq_true rfl) rfl ?_
  replace h : (∀ a2 : Nat, ∀ S1 : QS, S1 = q_nS S a2 12 4 → (∀ S3 : QS, S3 = q_sR S1 (q_u2 S1.2.2.2.2 52 0 (some 53)) → (∀ a5 : Nat, ∀ S4 : QS, S4 = q_nS S3 a5 5 0 → (∀ I6 : QI, I6 = q_rw I 54 (fun _ => 0) → (w_X5_init_at54 S4 I6 J (fun S7 I8 J9 => (∀ S10 : QS, S10 = q_sR S7 (q_u2 S7.2.2.2.2 53 (0 : Int32).toNatClampNeg (some 54)) → (∀ a12 : Nat, ∀ S11 : QS, S11 = q_nS S10 a12 5 0 → (∀ I13 : QI, I13 = q_rw I8 57 (fun _ => 0) → (w_X5_init_at57 S11 I13 J9 (fun S14 I15 J16 => (∀ S17 : QS, S17 = q_sR S14 (q_u2 S14.2.2.2.2 53 (1 : Int32).toNatClampNeg (some 57)) → (∀ a19 : Nat, ∀ S18 : QS, S18 = q_nS S17 a19 5 0 → (∀ I20 : QI, I20 = q_rw I15 60 (fun _ => 0) → (w_X5_init_at60 S18 I20 J16 (fun S21 I22 J23 => (∀ S24 : QS, S24 = q_sR S21 (q_u2 S21.2.2.2.2 53 (2 : Int32).toNatClampNeg (some 60)) → (∀ a26 : Nat, ∀ S25 : QS, S25 = q_nS S24 a26 5 0 → (∀ I27 : QI, I27 = q_rw I22 63 (fun _ => 0) → (w_X5_init_at63 S25 I27 J23 (fun S28 I29 J30 => (∀ S31 : QS, S31 = q_sR S28 (q_u2 S28.2.2.2.2 53 (3 : Int32).toNatClampNeg (some 63)) → (∀ I32 : QI, I32 = q_u2 I29 52 2 1 → (post S31 I32 J30)))))))))))))))))))))))) := h
  refine V_aload_n dX4_init_0 rfl rfl ?_
  refine V_objInit dX4_init_1 ml_RX4_3 ob_in ob_co (Nat.le_of_ble_eq_true rfl) ?_
  refine V_aload_n dX4_init_4 rfl rfl ?_
  refine V_iconst (v := 4) dX4_init_5 (by decide) ?_
  refine V_newT (z := 4) dX4_init_6 cl_RX4_9 (by decide) (by decide) (by decide) (by rw [hN]; decide) hc (q_vbn hN rfl) (q_vbn hN rfl) (by decide) (by decide) (fun a2 => ?_)
  rw [hN]
  refine V_memS (fun S1 e_S1 => ?_)
  replace h := h a2 S1 e_S1
  have hM9 := hN
  have hN9 : S1.2.1 = 54 := by rw [e_S1]; show _ + 1 = 54; rw [hN]
  have hc9 : q_cl S1 := by rw [e_S1]; exact q_cl_new hc _ _ _
  have hE9 : Ex S S1 := by rw [e_S1]; exact hE.tr (Ex.new _ (by rw [hN]; decide) _ _ _)
  have hR9 : q_Rk 52 S S1 := by rw [e_S1]; exact hR.new hE.1 _ _ _
  have hK529 : S1.2.2.1 52 = 4 := by rw [e_S1]; exact (if_neg (by rw [hN]; decide)).trans hK52
  clear hc hE hR hK52  
  have hN := hN9
  have hc := hc9
  have hE := hE9
  have hR := hR9
  have hK52 := hK529
  have hK53 : S1.2.2.1 53 = 12 := by rw [e_S1]; exact if_pos hM9.symm
  have hZ53 : S1.2.2.2.1 53 = 4 := by rw [e_S1]; exact if_pos hM9.symm
  clear hM9
  refine V_putF dX4_init_9 fl_RX4_11 rfl rfl rfl (by rw [hN]; decide) hK52 rfl (fun _ => rfl) (fun _ => rfl) ?_
  refine V_memS (fun S3 e_S3 => ?_)
  replace h := h S3 e_S3
  have hN9 : S3.2.1 = 54 := by rw [e_S3]; exact hN
  have hc9 : q_cl S3 := by rw [e_S3]; exact q_cl_put hc (by rw [hN]; decide)
  have hE9 : Ex S S3 := by rw [e_S3]; exact hE.tr (Ex.put _ _)
  have hR9 : q_Rk 52 S S3 := by rw [e_S3]; exact hR.put (Or.inl rfl)
  have hK529 : S3.2.2.1 52 = 4 := by rw [e_S3]; exact hK52
  have hK539 : S3.2.2.1 53 = 12 := by rw [e_S3]; exact hK53
  have hZ539 : S3.2.2.2.1 53 = 4 := by rw [e_S3]; exact hZ53
  clear hc hE hR hK52 hK53 hZ53 
  have hN := hN9
  have hc := hc9
  have hE := hE9
  have hR := hR9
  have hK52 := hK529
  have hK53 := hK539
  have hZ53 := hZ539
  have hR52_0 : S3.2.2.2.2 52 0 = some 53 := by rw [e_S3]; exact q_u2_s S1.2.2.2.2 52 0 (some 53)
  refine V_iconst (v := 0) dX4_init_12 (by decide) ?_
  refine V_istore_n (lo2 := [(1, .int 0), (0, .ref 52)]) dX4_init_13 rfl (by decide) rfl ?_
  refine V_iload_n dX4_init_14 rfl rfl ?_
  refine V_iconst (v := 4) dX4_init_15 (by decide) ?_
  refine V_icmp_ge 38 dX4_init_16 rfl (fun hc9 => ?_) (fun hc9 => ?_)
  · first | exact absurd hc9 (by decide) | exact absurd (by decide) hc9
  · refine V_aload_n dX4_init_19 rfl rfl ?_
    refine V_getr dX4_init_20 fl_RX4_11 (by rw [hN]; decide) hK52 rfl hR52_0 ?_
    refine V_iload_n dX4_init_23 rfl rfl ?_
    refine V_new (ci := 5) dX4_init_24 (by decide) cl_RX4_9 is_RX5 ii_RX5 (by rw [hN]; decide) hc (q_vbn hN rfl) (q_vbn hN rfl) (by decide) (by decide) (fun a5 => ?_)
    rw [hN]
    refine V_memS (fun S4 e_S4 => ?_)
    refine V_memI (fun I6 e_I6 => ?_)
    replace h := h a5 S4 e_S4 I6 e_I6
    have hM9 := hN
    have hN9 : S4.2.1 = 55 := by rw [e_S4]; show _ + 1 = 55; rw [hN]
    have hc9 : q_cl S4 := by rw [e_S4]; exact q_cl_new hc _ _ _
    have hE9 : Ex S S4 := by rw [e_S4]; exact hE.tr (Ex.new _ (by rw [hN]; decide) _ _ _)
    have hR9 : q_Rk 52 S S4 := by rw [e_S4]; exact hR.new hE.1 _ _ _
    have hK529 : S4.2.2.1 52 = 4 := by rw [e_S4]; exact (if_neg (by rw [hN]; decide)).trans hK52
    have hK539 : S4.2.2.1 53 = 12 := by rw [e_S4]; exact (if_neg (by rw [hN]; decide)).trans hK53
    have hZ539 : S4.2.2.2.1 53 = 4 := by rw [e_S4]; exact (if_neg (by rw [hN]; decide)).trans hZ53
    have hR52_09 : S4.2.2.2.2 52 0 = some 53 := by rw [e_S4]; exact (congrFun (if_neg (by rw [hN]; decide)) _).trans hR52_0
    clear hc hE hR hK52 hK53 hZ53 hR52_0
    have hN := hN9
    have hc := hc9
    have hE := hE9
    have hR := hR9
    have hK52 := hK529
    have hK53 := hK539
    have hZ53 := hZ539
    have hR52_0 := hR52_09
    have hK54 : S4.2.2.1 54 = 5 := by rw [e_S4]; exact if_pos hM9.symm
    clear hM9
    refine V_dup dX4_init_27 rfl ?_
    refine V_callIk (st := [.ref 54, .int 0, .ref 53]) [] dX4_init_28 ok_mX5_init rfl ml_RX4_17 in_mX5_init rfl rfl (Nat.le_of_ble_eq_true rfl) (by decide) (by decide) (by decide) (q_vbn hN rfl) (q_vbn hN rfl) (s_X5_init_at54 hN hc hK54 h) (fun S7 I8 J9 hE8 hc8 hN8 hR8 h => ?_)
    have hN9 : S7.2.1 = 57 := by rw [hN8, hN]
    have hE9 := hE.tr hE8
    have hR9 := hR.call hE hR8 (by rw [hN0]; decide)
    have hK529 : S7.2.2.1 52 = 4 := (hE8.2.1 52 (by rw [hN]; decide)).2.1.trans hK52
    have hK539 : S7.2.2.1 53 = 12 := (hE8.2.1 53 (by rw [hN]; decide)).2.1.trans hK53
    have hZ539 : S7.2.2.2.1 53 = 4 := (hE8.2.1 53 (by rw [hN]; decide)).2.2.trans hZ53
    have hR52_09 : S7.2.2.2.2 52 0 = some 53 := (congrFun (hR8 52 (by rw [hN]; decide) (by decide)) _).trans hR52_0
    have hK549 : S7.2.2.1 54 = 5 := (hE8.2.1 54 (by rw [hN]; decide)).2.1.trans hK54
    clear hc hE hR hK52 hK53 hK54 hZ53 hR52_0
    have hN := hN9
    have hc := hc8
    have hE := hE9
    have hR := hR9
    have hK52 := hK529
    have hK53 := hK539
    have hZ53 := hZ539
    have hR52_0 := hR52_09
    have hK54 := hK549
    refine V_aast dX4_init_31 (by rw [hN]; decide) hK53 (by rw [hN]; decide) hK54 (by rw [hZ53]; exact vp_in_iff.mpr (by decide)) ?_
    refine V_memS (fun S10 e_S10 => ?_)
    replace h := h S10 e_S10
    have hN9 : S10.2.1 = 57 := by rw [e_S10]; exact hN
    have hc9 : q_cl S10 := by rw [e_S10]; exact q_cl_put hc (by rw [hN]; decide)
    have hE9 : Ex S S10 := by rw [e_S10]; exact hE.tr (Ex.put _ _)
    have hR9 : q_Rk 52 S S10 := by rw [e_S10]; exact hR.put (Or.inr (by rw [hN0]; decide))
    have hK529 : S10.2.2.1 52 = 4 := by rw [e_S10]; exact hK52
    have hK539 : S10.2.2.1 53 = 12 := by rw [e_S10]; exact hK53
    have hZ539 : S10.2.2.2.1 53 = 4 := by rw [e_S10]; exact hZ53
    have hR52_09 : S10.2.2.2.2 52 0 = some 53 := by rw [e_S10]; exact (if_neg (t := some 54) (show ¬ ((52 : Nat) = 53 ∧ (0 : Nat) = (0 : Int32).toNatClampNeg) by decide)).trans hR52_0
    have hK549 : S10.2.2.1 54 = 5 := by rw [e_S10]; exact hK54
    clear hc hE hR hK52 hK53 hK54 hZ53 hR52_0
    have hN := hN9
    have hc := hc9
    have hE := hE9
    have hR := hR9
    have hK52 := hK529
    have hK53 := hK539
    have hZ53 := hZ539
    have hR52_0 := hR52_09
    have hK54 := hK549
    refine V_iinc (lo2 := [(1, .int 1), (0, .ref 52)]) 0 dX4_init_32 rfl (v := 1) (by decide) (by decide) rfl ?_
    refine V_goto 14 dX4_init_35 rfl ?_
    refine V_iload_n dX4_init_14 rfl rfl ?_
    refine V_iconst (v := 4) dX4_init_15 (by decide) ?_
    refine V_icmp_ge 38 dX4_init_16 rfl (fun hc9 => ?_) (fun hc9 => ?_)
    · first | exact absurd hc9 (by decide) | exact absurd (by decide) hc9
    · refine V_aload_n dX4_init_19 rfl rfl ?_
      refine V_getr dX4_init_20 fl_RX4_11 (by rw [hN]; decide) hK52 rfl hR52_0 ?_
      refine V_iload_n dX4_init_23 rfl rfl ?_
      refine V_new (ci := 5) dX4_init_24 (by decide) cl_RX4_9 is_RX5 ii_RX5 (by rw [hN]; decide) hc (q_vbn hN rfl) (q_vbn hN rfl) (by decide) (by decide) (fun a12 => ?_)
      rw [hN]
      refine V_memS (fun S11 e_S11 => ?_)
      refine V_memI (fun I13 e_I13 => ?_)
      replace h := h a12 S11 e_S11 I13 e_I13
      have hM9 := hN
      have hN9 : S11.2.1 = 58 := by rw [e_S11]; show _ + 1 = 58; rw [hN]
      have hc9 : q_cl S11 := by rw [e_S11]; exact q_cl_new hc _ _ _
      have hE9 : Ex S S11 := by rw [e_S11]; exact hE.tr (Ex.new _ (by rw [hN]; decide) _ _ _)
      have hR9 : q_Rk 52 S S11 := by rw [e_S11]; exact hR.new hE.1 _ _ _
      have hK529 : S11.2.2.1 52 = 4 := by rw [e_S11]; exact (if_neg (by rw [hN]; decide)).trans hK52
      have hK539 : S11.2.2.1 53 = 12 := by rw [e_S11]; exact (if_neg (by rw [hN]; decide)).trans hK53
      have hZ539 : S11.2.2.2.1 53 = 4 := by rw [e_S11]; exact (if_neg (by rw [hN]; decide)).trans hZ53
      have hR52_09 : S11.2.2.2.2 52 0 = some 53 := by rw [e_S11]; exact (congrFun (if_neg (by rw [hN]; decide)) _).trans hR52_0
      have hK549 : S11.2.2.1 54 = 5 := by rw [e_S11]; exact (if_neg (by rw [hN]; decide)).trans hK54
      clear hc hE hR hK52 hK53 hK54 hZ53 hR52_0
      have hN := hN9
      have hc := hc9
      have hE := hE9
      have hR := hR9
      have hK52 := hK529
      have hK53 := hK539
      have hZ53 := hZ539
      have hR52_0 := hR52_09
      have hK54 := hK549
      have hK57 : S11.2.2.1 57 = 5 := by rw [e_S11]; exact if_pos hM9.symm
      clear hM9
      refine V_dup dX4_init_27 rfl ?_
      refine V_callIk (st := [.ref 57, .int 1, .ref 53]) [] dX4_init_28 ok_mX5_init rfl ml_RX4_17 in_mX5_init rfl rfl (Nat.le_of_ble_eq_true rfl) (by decide) (by decide) (by decide) (q_vbn hN rfl) (q_vbn hN rfl) (s_X5_init_at57 hN hc hK57 h) (fun S14 I15 J16 hE8 hc8 hN8 hR8 h => ?_)
      have hN9 : S14.2.1 = 60 := by rw [hN8, hN]
      have hE9 := hE.tr hE8
      have hR9 := hR.call hE hR8 (by rw [hN0]; decide)
      have hK529 : S14.2.2.1 52 = 4 := (hE8.2.1 52 (by rw [hN]; decide)).2.1.trans hK52
      have hK539 : S14.2.2.1 53 = 12 := (hE8.2.1 53 (by rw [hN]; decide)).2.1.trans hK53
      have hZ539 : S14.2.2.2.1 53 = 4 := (hE8.2.1 53 (by rw [hN]; decide)).2.2.trans hZ53
      have hR52_09 : S14.2.2.2.2 52 0 = some 53 := (congrFun (hR8 52 (by rw [hN]; decide) (by decide)) _).trans hR52_0
      have hK549 : S14.2.2.1 54 = 5 := (hE8.2.1 54 (by rw [hN]; decide)).2.1.trans hK54
      have hK579 : S14.2.2.1 57 = 5 := (hE8.2.1 57 (by rw [hN]; decide)).2.1.trans hK57
      clear hc hE hR hK52 hK53 hK54 hK57 hZ53 hR52_0
      have hN := hN9
      have hc := hc8
      have hE := hE9
      have hR := hR9
      have hK52 := hK529
      have hK53 := hK539
      have hZ53 := hZ539
      have hR52_0 := hR52_09
      have hK54 := hK549
      have hK57 := hK579
      refine V_aast dX4_init_31 (by rw [hN]; decide) hK53 (by rw [hN]; decide) hK57 (by rw [hZ53]; exact vp_in_iff.mpr (by decide)) ?_
      refine V_memS (fun S17 e_S17 => ?_)
      replace h := h S17 e_S17
      have hN9 : S17.2.1 = 60 := by rw [e_S17]; exact hN
      have hc9 : q_cl S17 := by rw [e_S17]; exact q_cl_put hc (by rw [hN]; decide)
      have hE9 : Ex S S17 := by rw [e_S17]; exact hE.tr (Ex.put _ _)
      have hR9 : q_Rk 52 S S17 := by rw [e_S17]; exact hR.put (Or.inr (by rw [hN0]; decide))
      have hK529 : S17.2.2.1 52 = 4 := by rw [e_S17]; exact hK52
      have hK539 : S17.2.2.1 53 = 12 := by rw [e_S17]; exact hK53
      have hZ539 : S17.2.2.2.1 53 = 4 := by rw [e_S17]; exact hZ53
      have hR52_09 : S17.2.2.2.2 52 0 = some 53 := by rw [e_S17]; exact (if_neg (t := some 57) (show ¬ ((52 : Nat) = 53 ∧ (0 : Nat) = (1 : Int32).toNatClampNeg) by decide)).trans hR52_0
      have hK549 : S17.2.2.1 54 = 5 := by rw [e_S17]; exact hK54
      have hK579 : S17.2.2.1 57 = 5 := by rw [e_S17]; exact hK57
      clear hc hE hR hK52 hK53 hK54 hK57 hZ53 hR52_0
      have hN := hN9
      have hc := hc9
      have hE := hE9
      have hR := hR9
      have hK52 := hK529
      have hK53 := hK539
      have hZ53 := hZ539
      have hR52_0 := hR52_09
      have hK54 := hK549
      have hK57 := hK579
      refine V_iinc (lo2 := [(1, .int 2), (0, .ref 52)]) 0 dX4_init_32 rfl (v := 2) (by decide) (by decide) rfl ?_
      refine V_goto 14 dX4_init_35 rfl ?_
      refine V_iload_n dX4_init_14 rfl rfl ?_
      refine V_iconst (v := 4) dX4_init_15 (by decide) ?_
      refine V_icmp_ge 38 dX4_init_16 rfl (fun hc9 => ?_) (fun hc9 => ?_)
      · first | exact absurd hc9 (by decide) | exact absurd (by decide) hc9
      · refine V_aload_n dX4_init_19 rfl rfl ?_
        refine V_getr dX4_init_20 fl_RX4_11 (by rw [hN]; decide) hK52 rfl hR52_0 ?_
        refine V_iload_n dX4_init_23 rfl rfl ?_
        refine V_new (ci := 5) dX4_init_24 (by decide) cl_RX4_9 is_RX5 ii_RX5 (by rw [hN]; decide) hc (q_vbn hN rfl) (q_vbn hN rfl) (by decide) (by decide) (fun a19 => ?_)
        rw [hN]
        refine V_memS (fun S18 e_S18 => ?_)
        refine V_memI (fun I20 e_I20 => ?_)
        replace h := h a19 S18 e_S18 I20 e_I20
        have hM9 := hN
        have hN9 : S18.2.1 = 61 := by rw [e_S18]; show _ + 1 = 61; rw [hN]
        have hc9 : q_cl S18 := by rw [e_S18]; exact q_cl_new hc _ _ _
        have hE9 : Ex S S18 := by rw [e_S18]; exact hE.tr (Ex.new _ (by rw [hN]; decide) _ _ _)
        have hR9 : q_Rk 52 S S18 := by rw [e_S18]; exact hR.new hE.1 _ _ _
        have hK529 : S18.2.2.1 52 = 4 := by rw [e_S18]; exact (if_neg (by rw [hN]; decide)).trans hK52
        have hK539 : S18.2.2.1 53 = 12 := by rw [e_S18]; exact (if_neg (by rw [hN]; decide)).trans hK53
        have hZ539 : S18.2.2.2.1 53 = 4 := by rw [e_S18]; exact (if_neg (by rw [hN]; decide)).trans hZ53
        have hR52_09 : S18.2.2.2.2 52 0 = some 53 := by rw [e_S18]; exact (congrFun (if_neg (by rw [hN]; decide)) _).trans hR52_0
        have hK549 : S18.2.2.1 54 = 5 := by rw [e_S18]; exact (if_neg (by rw [hN]; decide)).trans hK54
        have hK579 : S18.2.2.1 57 = 5 := by rw [e_S18]; exact (if_neg (by rw [hN]; decide)).trans hK57
        clear hc hE hR hK52 hK53 hK54 hK57 hZ53 hR52_0
        have hN := hN9
        have hc := hc9
        have hE := hE9
        have hR := hR9
        have hK52 := hK529
        have hK53 := hK539
        have hZ53 := hZ539
        have hR52_0 := hR52_09
        have hK54 := hK549
        have hK57 := hK579
        have hK60 : S18.2.2.1 60 = 5 := by rw [e_S18]; exact if_pos hM9.symm
        clear hM9
        refine V_dup dX4_init_27 rfl ?_
        refine V_callIk (st := [.ref 60, .int 2, .ref 53]) [] dX4_init_28 ok_mX5_init rfl ml_RX4_17 in_mX5_init rfl rfl (Nat.le_of_ble_eq_true rfl) (by decide) (by decide) (by decide) (q_vbn hN rfl) (q_vbn hN rfl) (s_X5_init_at60 hN hc hK60 h) (fun S21 I22 J23 hE8 hc8 hN8 hR8 h => ?_)
        have hN9 : S21.2.1 = 63 := by rw [hN8, hN]
        have hE9 := hE.tr hE8
        have hR9 := hR.call hE hR8 (by rw [hN0]; decide)
        have hK529 : S21.2.2.1 52 = 4 := (hE8.2.1 52 (by rw [hN]; decide)).2.1.trans hK52
        have hK539 : S21.2.2.1 53 = 12 := (hE8.2.1 53 (by rw [hN]; decide)).2.1.trans hK53
        have hZ539 : S21.2.2.2.1 53 = 4 := (hE8.2.1 53 (by rw [hN]; decide)).2.2.trans hZ53
        have hR52_09 : S21.2.2.2.2 52 0 = some 53 := (congrFun (hR8 52 (by rw [hN]; decide) (by decide)) _).trans hR52_0
        have hK549 : S21.2.2.1 54 = 5 := (hE8.2.1 54 (by rw [hN]; decide)).2.1.trans hK54
        have hK579 : S21.2.2.1 57 = 5 := (hE8.2.1 57 (by rw [hN]; decide)).2.1.trans hK57
        have hK609 : S21.2.2.1 60 = 5 := (hE8.2.1 60 (by rw [hN]; decide)).2.1.trans hK60
        clear hc hE hR hK52 hK53 hK54 hK57 hK60 hZ53 hR52_0
        have hN := hN9
        have hc := hc8
        have hE := hE9
        have hR := hR9
        have hK52 := hK529
        have hK53 := hK539
        have hZ53 := hZ539
        have hR52_0 := hR52_09
        have hK54 := hK549
        have hK57 := hK579
        have hK60 := hK609
        refine V_aast dX4_init_31 (by rw [hN]; decide) hK53 (by rw [hN]; decide) hK60 (by rw [hZ53]; exact vp_in_iff.mpr (by decide)) ?_
        refine V_memS (fun S24 e_S24 => ?_)
        replace h := h S24 e_S24
        have hN9 : S24.2.1 = 63 := by rw [e_S24]; exact hN
        have hc9 : q_cl S24 := by rw [e_S24]; exact q_cl_put hc (by rw [hN]; decide)
        have hE9 : Ex S S24 := by rw [e_S24]; exact hE.tr (Ex.put _ _)
        have hR9 : q_Rk 52 S S24 := by rw [e_S24]; exact hR.put (Or.inr (by rw [hN0]; decide))
        have hK529 : S24.2.2.1 52 = 4 := by rw [e_S24]; exact hK52
        have hK539 : S24.2.2.1 53 = 12 := by rw [e_S24]; exact hK53
        have hZ539 : S24.2.2.2.1 53 = 4 := by rw [e_S24]; exact hZ53
        have hR52_09 : S24.2.2.2.2 52 0 = some 53 := by rw [e_S24]; exact (if_neg (t := some 60) (show ¬ ((52 : Nat) = 53 ∧ (0 : Nat) = (2 : Int32).toNatClampNeg) by decide)).trans hR52_0
        have hK549 : S24.2.2.1 54 = 5 := by rw [e_S24]; exact hK54
        have hK579 : S24.2.2.1 57 = 5 := by rw [e_S24]; exact hK57
        have hK609 : S24.2.2.1 60 = 5 := by rw [e_S24]; exact hK60
        clear hc hE hR hK52 hK53 hK54 hK57 hK60 hZ53 hR52_0
        have hN := hN9
        have hc := hc9
        have hE := hE9
        have hR := hR9
        have hK52 := hK529
        have hK53 := hK539
        have hZ53 := hZ539
        have hR52_0 := hR52_09
        have hK54 := hK549
        have hK57 := hK579
        have hK60 := hK609
        refine V_iinc (lo2 := [(1, .int 3), (0, .ref 52)]) 0 dX4_init_32 rfl (v := 3) (by decide) (by decide) rfl ?_
        refine V_goto 14 dX4_init_35 rfl ?_
        refine V_iload_n dX4_init_14 rfl rfl ?_
        refine V_iconst (v := 4) dX4_init_15 (by decide) ?_
        refine V_icmp_ge 38 dX4_init_16 rfl (fun hc9 => ?_) (fun hc9 => ?_)
        · first | exact absurd hc9 (by decide) | exact absurd (by decide) hc9
        · refine V_aload_n dX4_init_19 rfl rfl ?_
          refine V_getr dX4_init_20 fl_RX4_11 (by rw [hN]; decide) hK52 rfl hR52_0 ?_
          refine V_iload_n dX4_init_23 rfl rfl ?_
          refine V_new (ci := 5) dX4_init_24 (by decide) cl_RX4_9 is_RX5 ii_RX5 (by rw [hN]; decide) hc (q_vbn hN rfl) (q_vbn hN rfl) (by decide) (by decide) (fun a26 => ?_)
          rw [hN]
          refine V_memS (fun S25 e_S25 => ?_)
          refine V_memI (fun I27 e_I27 => ?_)
          replace h := h a26 S25 e_S25 I27 e_I27
          have hM9 := hN
          have hN9 : S25.2.1 = 64 := by rw [e_S25]; show _ + 1 = 64; rw [hN]
          have hc9 : q_cl S25 := by rw [e_S25]; exact q_cl_new hc _ _ _
          have hE9 : Ex S S25 := by rw [e_S25]; exact hE.tr (Ex.new _ (by rw [hN]; decide) _ _ _)
          have hR9 : q_Rk 52 S S25 := by rw [e_S25]; exact hR.new hE.1 _ _ _
          have hK529 : S25.2.2.1 52 = 4 := by rw [e_S25]; exact (if_neg (by rw [hN]; decide)).trans hK52
          have hK539 : S25.2.2.1 53 = 12 := by rw [e_S25]; exact (if_neg (by rw [hN]; decide)).trans hK53
          have hZ539 : S25.2.2.2.1 53 = 4 := by rw [e_S25]; exact (if_neg (by rw [hN]; decide)).trans hZ53
          have hR52_09 : S25.2.2.2.2 52 0 = some 53 := by rw [e_S25]; exact (congrFun (if_neg (by rw [hN]; decide)) _).trans hR52_0
          have hK549 : S25.2.2.1 54 = 5 := by rw [e_S25]; exact (if_neg (by rw [hN]; decide)).trans hK54
          have hK579 : S25.2.2.1 57 = 5 := by rw [e_S25]; exact (if_neg (by rw [hN]; decide)).trans hK57
          have hK609 : S25.2.2.1 60 = 5 := by rw [e_S25]; exact (if_neg (by rw [hN]; decide)).trans hK60
          clear hc hE hR hK52 hK53 hK54 hK57 hK60 hZ53 hR52_0
          have hN := hN9
          have hc := hc9
          have hE := hE9
          have hR := hR9
          have hK52 := hK529
          have hK53 := hK539
          have hZ53 := hZ539
          have hR52_0 := hR52_09
          have hK54 := hK549
          have hK57 := hK579
          have hK60 := hK609
          have hK63 : S25.2.2.1 63 = 5 := by rw [e_S25]; exact if_pos hM9.symm
          clear hM9
          refine V_dup dX4_init_27 rfl ?_
          refine V_callIk (st := [.ref 63, .int 3, .ref 53]) [] dX4_init_28 ok_mX5_init rfl ml_RX4_17 in_mX5_init rfl rfl (Nat.le_of_ble_eq_true rfl) (by decide) (by decide) (by decide) (q_vbn hN rfl) (q_vbn hN rfl) (s_X5_init_at63 hN hc hK63 h) (fun S28 I29 J30 hE8 hc8 hN8 hR8 h => ?_)
          have hN9 : S28.2.1 = 66 := by rw [hN8, hN]
          have hE9 := hE.tr hE8
          have hR9 := hR.call hE hR8 (by rw [hN0]; decide)
          have hK529 : S28.2.2.1 52 = 4 := (hE8.2.1 52 (by rw [hN]; decide)).2.1.trans hK52
          have hK539 : S28.2.2.1 53 = 12 := (hE8.2.1 53 (by rw [hN]; decide)).2.1.trans hK53
          have hZ539 : S28.2.2.2.1 53 = 4 := (hE8.2.1 53 (by rw [hN]; decide)).2.2.trans hZ53
          have hR52_09 : S28.2.2.2.2 52 0 = some 53 := (congrFun (hR8 52 (by rw [hN]; decide) (by decide)) _).trans hR52_0
          have hK549 : S28.2.2.1 54 = 5 := (hE8.2.1 54 (by rw [hN]; decide)).2.1.trans hK54
          have hK579 : S28.2.2.1 57 = 5 := (hE8.2.1 57 (by rw [hN]; decide)).2.1.trans hK57
          have hK609 : S28.2.2.1 60 = 5 := (hE8.2.1 60 (by rw [hN]; decide)).2.1.trans hK60
          have hK639 : S28.2.2.1 63 = 5 := (hE8.2.1 63 (by rw [hN]; decide)).2.1.trans hK63
          clear hc hE hR hK52 hK53 hK54 hK57 hK60 hK63 hZ53 hR52_0
          have hN := hN9
          have hc := hc8
          have hE := hE9
          have hR := hR9
          have hK52 := hK529
          have hK53 := hK539
          have hZ53 := hZ539
          have hR52_0 := hR52_09
          have hK54 := hK549
          have hK57 := hK579
          have hK60 := hK609
          have hK63 := hK639
          refine V_aast dX4_init_31 (by rw [hN]; decide) hK53 (by rw [hN]; decide) hK63 (by rw [hZ53]; exact vp_in_iff.mpr (by decide)) ?_
          refine V_memS (fun S31 e_S31 => ?_)
          replace h := h S31 e_S31
          have hN9 : S31.2.1 = 66 := by rw [e_S31]; exact hN
          have hc9 : q_cl S31 := by rw [e_S31]; exact q_cl_put hc (by rw [hN]; decide)
          have hE9 : Ex S S31 := by rw [e_S31]; exact hE.tr (Ex.put _ _)
          have hR9 : q_Rk 52 S S31 := by rw [e_S31]; exact hR.put (Or.inr (by rw [hN0]; decide))
          have hK529 : S31.2.2.1 52 = 4 := by rw [e_S31]; exact hK52
          have hK539 : S31.2.2.1 53 = 12 := by rw [e_S31]; exact hK53
          have hZ539 : S31.2.2.2.1 53 = 4 := by rw [e_S31]; exact hZ53
          have hR52_09 : S31.2.2.2.2 52 0 = some 53 := by rw [e_S31]; exact (if_neg (t := some 63) (show ¬ ((52 : Nat) = 53 ∧ (0 : Nat) = (3 : Int32).toNatClampNeg) by decide)).trans hR52_0
          have hK549 : S31.2.2.1 54 = 5 := by rw [e_S31]; exact hK54
          have hK579 : S31.2.2.1 57 = 5 := by rw [e_S31]; exact hK57
          have hK609 : S31.2.2.1 60 = 5 := by rw [e_S31]; exact hK60
          have hK639 : S31.2.2.1 63 = 5 := by rw [e_S31]; exact hK63
          clear hc hE hR hK52 hK53 hK54 hK57 hK60 hK63 hZ53 hR52_0
          have hN := hN9
          have hc := hc9
          have hE := hE9
          have hR := hR9
          have hK52 := hK529
          have hK53 := hK539
          have hZ53 := hZ539
          have hR52_0 := hR52_09
          have hK54 := hK549
          have hK57 := hK579
          have hK60 := hK609
          have hK63 := hK639
          refine V_iinc (lo2 := [(1, .int 4), (0, .ref 52)]) 0 dX4_init_32 rfl (v := 4) (by decide) (by decide) rfl ?_
          refine V_goto 14 dX4_init_35 rfl ?_
          refine V_iload_n dX4_init_14 rfl rfl ?_
          refine V_iconst (v := 4) dX4_init_15 (by decide) ?_
          refine V_icmp_ge 38 dX4_init_16 rfl (fun hc9 => ?_) (fun hc9 => ?_)
          · refine V_aload_n dX4_init_38 rfl rfl ?_
            refine V_iconst (v := 1) dX4_init_39 (by decide) ?_
            refine V_puti dX4_init_40 fl_RX4_18 rfl (by rw [hN]; decide) hK52 rfl rfl rfl ?_
            refine V_memI (fun I32 e_I32 => ?_)
            replace h := h I32 e_I32
            exact V_vret dX4_init_43 rfl (by decide) (by decide) ⟨rfl, hE, hc, by rw [hN, hN0], hR, h⟩
          · first | exact absurd hc9 (by decide) | exact absurd (by decide) hc9
