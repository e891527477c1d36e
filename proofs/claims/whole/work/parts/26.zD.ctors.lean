def w_X8_init_at51 (S : QS) (I : QI) (J : QJ) (post : QS → QI → QJ → Prop) : Prop := (∀ a2 : Nat, ∀ S1 : QS, S1 = q_nS S a2 9 4 → (∀ I3 : QI, I3 = q_rw I 52 (fun _ => 0) → (∀ S4 : QS, S4 = q_sR S1 (q_u2 S1.2.2.2.2 51 2 (some 52)) → (∀ a6 : Nat, ∀ S5 : QS, S5 = q_nS S4 a6 9 4 → (∀ I7 : QI, I7 = q_rw I3 53 (fun _ => 0) → (∀ S8 : QS, S8 = q_sR S5 (q_u2 S5.2.2.2.2 51 3 (some 53)) → (∀ a10 : Nat, ∀ S9 : QS, S9 = q_nS S8 a10 9 120 → (∀ I11 : QI, I11 = q_rw I7 54 (fun _ => 0) → (∀ S12 : QS, S12 = q_sR S9 (q_u2 S9.2.2.2.2 51 4 (some 54)) → (∀ a14 : Nat, ∀ S13 : QS, S13 = q_nS S12 a14 9 24 → (∀ I15 : QI, I15 = q_rw I11 55 (fun _ => 0) → (∀ S16 : QS, S16 = q_sR S13 (q_u2 S13.2.2.2.2 51 6 (some 55)) → (∀ a18 : Nat, ∀ S17 : QS, S17 = q_nS S16 a18 9 24 → (∀ I19 : QI, I19 = q_rw I15 56 (fun _ => 0) → (∀ S20 : QS, S20 = q_sR S17 (q_u2 S17.2.2.2.2 51 7 (some 56)) → (∀ a22 : Nat, ∀ S21 : QS, S21 = q_nS S20 a22 9 24 → (∀ I23 : QI, I23 = q_rw I19 57 (fun _ => 0) → (∀ S24 : QS, S24 = q_sR S21 (q_u2 S21.2.2.2.2 51 8 (some 57)) → (∀ a26 : Nat, ∀ S25 : QS, S25 = q_nS S24 a26 9 24 → (∀ I27 : QI, I27 = q_rw I23 58 (fun _ => 0) → (∀ S28 : QS, S28 = q_sR S25 (q_u2 S25.2.2.2.2 51 9 (some 58)) → (∀ a30 : Nat, ∀ S29 : QS, S29 = q_nS S28 a30 9 24 → (∀ I31 : QI, I31 = q_rw I27 59 (fun _ => 0) → (∀ S32 : QS, S32 = q_sR S29 (q_u2 S29.2.2.2.2 51 10 (some 59)) → (∀ a34 : Nat, ∀ S33 : QS, S33 = q_nS S32 a34 9 24 → (∀ I35 : QI, I35 = q_rw I31 60 (fun _ => 0) → (∀ S36 : QS, S36 = q_sR S33 (q_u2 S33.2.2.2.2 51 11 (some 60)) → (∀ a38 : Nat, ∀ S37 : QS, S37 = q_nS S36 a38 9 24 → (∀ I39 : QI, I39 = q_rw I35 61 (fun _ => 0) → (∀ S40 : QS, S40 = q_sR S37 (q_u2 S37.2.2.2.2 51 12 (some 61)) → (∀ I41 : QI, I41 = q_u2 I39 51 13 100000 → (∀ a43 : Nat, ∀ S42 : QS, S42 = q_nS S40 a43 9 24 → (∀ I44 : QI, I44 = q_rw I41 62 (fun _ => 0) → (∀ S45 : QS, S45 = q_sR S42 (q_u2 S42.2.2.2.2 51 15 (some 62)) → (∀ a47 : Nat, ∀ S46 : QS, S46 = q_nS S45 a47 9 16 → (∀ I48 : QI, I48 = q_rw I44 63 (fun _ => 0) → (∀ S49 : QS, S49 = q_sR S46 (q_u2 S46.2.2.2.2 51 17 (some 63)) → (∀ a51 : Nat, ∀ S50 : QS, S50 = q_nS S49 a51 9 24 → (∀ I52 : QI, I52 = q_rw I48 64 (fun _ => 0) → (∀ S53 : QS, S53 = q_sR S50 (q_u2 S50.2.2.2.2 51 18 (some 64)) → (∀ a55 : Nat, ∀ S54 : QS, S54 = q_nS S53 a55 10 24 → (∀ J56 : QJ, J56 = q_rw J 65 (fun _ => 0) → (∀ S57 : QS, S57 = q_sR S54 (q_u2 S54.2.2.2.2 51 19 (some 65)) → (∀ a59 : Nat, ∀ S58 : QS, S58 = q_nS S57 a59 9 28800 → (∀ I60 : QI, I60 = q_rw I52 66 (fun _ => 0) → (∀ S61 : QS, S61 = q_sR S58 (q_u2 S58.2.2.2.2 51 20 (some 66)) → (∀ a63 : Nat, ∀ S62 : QS, S62 = q_nS S61 a63 11 24 → (∀ I64 : QI, I64 = q_rw I60 67 (fun _ => 0) → (∀ S65 : QS, S65 = q_sR S62 (q_u2 S62.2.2.2.2 51 21 (some 67)) → (∀ a67 : Nat, ∀ S66 : QS, S66 = q_nS S65 a67 11 400 → (∀ I68 : QI, I68 = q_rw I64 68 (fun _ => 0) → (∀ S69 : QS, S69 = q_sR S66 (q_u2 S66.2.2.2.2 51 22 (some 68)) → (∀ a71 : Nat, ∀ S70 : QS, S70 = q_nS S69 a71 9 1200 → (∀ I72 : QI, I72 = q_rw I68 69 (fun _ => 0) → (∀ S73 : QS, S73 = q_sR S70 (q_u2 S70.2.2.2.2 51 23 (some 69)) → (∀ a75 : Nat, ∀ S74 : QS, S74 = q_nS S73 a75 9 64 → (∀ I76 : QI, I76 = q_rw I72 70 (fun _ => 0) → (∀ S77 : QS, S77 = q_sR S74 (q_u2 S74.2.2.2.2 51 25 (some 70)) → (∀ a79 : Nat, ∀ S78 : QS, S78 = q_nS S77 a79 9 64 → (∀ I80 : QI, I80 = q_rw I76 71 (fun _ => 0) → (∀ S81 : QS, S81 = q_sR S78 (q_u2 S78.2.2.2.2 51 26 (some 71)) → (∀ a83 : Nat, ∀ S82 : QS, S82 = q_nS S81 a83 9 64 → (∀ I84 : QI, I84 = q_rw I80 72 (fun _ => 0) → (∀ S85 : QS, S85 = q_sR S82 (q_u2 S82.2.2.2.2 51 28 (some 72)) → (∀ a87 : Nat, ∀ S86 : QS, S86 = q_nS S85 a87 9 64 → (∀ I88 : QI, I88 = q_rw I84 73 (fun _ => 0) → (∀ S89 : QS, S89 = q_sR S86 (q_u2 S86.2.2.2.2 51 29 (some 73)) → (∀ a91 : Nat, ∀ S90 : QS, S90 = q_nS S89 a91 9 64 → (∀ I92 : QI, I92 = q_rw I88 74 (fun _ => 0) → (∀ S93 : QS, S93 = q_sR S90 (q_u2 S90.2.2.2.2 51 30 (some 74)) → (∀ a95 : Nat, ∀ S94 : QS, S94 = q_nS S93 a95 9 24 → (∀ I96 : QI, I96 = q_rw I92 75 (fun _ => 0) → (∀ S97 : QS, S97 = q_sR S94 (q_u2 S94.2.2.2.2 51 31 (some 75)) → (∀ a99 : Nat, ∀ S98 : QS, S98 = q_nS S97 a99 9 16 → (∀ I100 : QI, I100 = q_rw I96 76 (fun _ => 0) → (∀ S101 : QS, S101 = q_sR S98 (q_u2 S98.2.2.2.2 51 33 (some 76)) → (∀ a103 : Nat, ∀ S102 : QS, S102 = q_nS S101 a103 9 16 → (∀ I104 : QI, I104 = q_rw I100 77 (fun _ => 0) → (∀ S105 : QS, S105 = q_sR S102 (q_u2 S102.2.2.2.2 51 34 (some 77)) → (∀ a107 : Nat, ∀ S106 : QS, S106 = q_nS S105 a107 11 10 → (∀ I108 : QI, I108 = q_rw I104 78 (fun _ => 0) → (∀ S109 : QS, S109 = q_sR S106 (q_u2 S106.2.2.2.2 51 35 (some 78)) → (post S109 I108 J56)))))))))))))))))))))))))))))))))))))))))))))))))))))))))))))))))))))))))))))))))))
set_option maxRecDepth 100000 in
set_option maxHeartbeats 4000000 in
theorem s_X8_init_at51 {X : QX} {S : QS} {I : QI} {J : QJ} {post : QS → QI → QJ → Prop} (hN : S.2.1 = 52) (hc : q_cl S) (hK51 : S.2.2.1 51 = 8) (h : w_X8_init_at51 S I J post) : CX X mX8_init 1 27 31194 [.ref 51] S I J (q_Pk 51 S 27 post) := by
  have hN0 := hN
  have hE : Ex S S := Ex.rf
  have hR : q_Rk 51 S S := q_Rk.rf
  refine CX.of (lo := [(0, .ref 51)]) ok_mX8_init rfl (Nat.le_of_ble_eq_true rfl) rfl ?_
  replace h : (∀ a2 : Nat, ∀ S1 : QS, S1 = q_nS S a2 9 4 → (∀ I3 : QI, I3 = q_rw I 52 (fun _ => 0) → (∀ S4 : QS, S4 = q_sR S1 (q_u2 S1.2.2.2.2 51 2 (some 52)) → (∀ a6 : Nat, ∀ S5 : QS, S5 = q_nS S4 a6 9 4 → (∀ I7 : QI, I7 = q_rw I3 53 (fun _ => 0) → (∀ S8 : QS, S8 = q_sR S5 (q_u2 S5.2.2.2.2 51 3 (some 53)) → (∀ a10 : Nat, ∀ S9 : QS, S9 = q_nS S8 a10 9 120 → (∀ I11 : QI, I11 = q_rw I7 54 (fun _ => 0) → (∀ S12 : QS, S12 = q_sR S9 (q_u2 S9.2.2.2.2 51 4 (some 54)) → (∀ a14 : Nat, ∀ S13 : QS, S13 = q_nS S12 a14 9 24 → (∀ I15 : QI, I15 = q_rw I11 55 (fun _ => 0) → (∀ S16 : QS, S16 = q_sR S13 (q_u2 S13.2.2.2.2 51 6 (some 55)) → (∀ a18 : Nat, ∀ S17 : QS, S17 = q_nS S16 a18 9 24 → (∀ I19 : QI, I19 = q_rw I15 56 (fun _ => 0) → (∀ S20 : QS, S20 = q_sR S17 (q_u2 S17.2.2.2.2 51 7 (some 56)) → (∀ a22 : Nat, ∀ S21 : QS, S21 = q_nS S20 a22 9 24 → (∀ I23 : QI, I23 = q_rw I19 57 (fun _ => 0) → (∀ S24 : QS, S24 = q_sR S21 (q_u2 S21.2.2.2.2 51 8 (some 57)) → (∀ a26 : Nat, ∀ S25 : QS, S25 = q_nS S24 a26 9 24 → (∀ I27 : QI, I27 = q_rw I23 58 (fun _ => 0) → (∀ S28 : QS, S28 = q_sR S25 (q_u2 S25.2.2.2.2 51 9 (some 58)) → (∀ a30 : Nat, ∀ S29 : QS, S29 = q_nS S28 a30 9 24 → (∀ I31 : QI, I31 = q_rw I27 59 (fun _ => 0) → (∀ S32 : QS, S32 = q_sR S29 (q_u2 S29.2.2.2.2 51 10 (some 59)) → (∀ a34 : Nat, ∀ S33 : QS, S33 = q_nS S32 a34 9 24 → (∀ I35 : QI, I35 = q_rw I31 60 (fun _ => 0) → (∀ S36 : QS, S36 = q_sR S33 (q_u2 S33.2.2.2.2 51 11 (some 60)) → (∀ a38 : Nat, ∀ S37 : QS, S37 = q_nS S36 a38 9 24 → (∀ I39 : QI, I39 = q_rw I35 61 (fun _ => 0) → (∀ S40 : QS, S40 = q_sR S37 (q_u2 S37.2.2.2.2 51 12 (some 61)) → (∀ I41 : QI, I41 = q_u2 I39 51 13 100000 → (∀ a43 : Nat, ∀ S42 : QS, S42 = q_nS S40 a43 9 24 → (∀ I44 : QI, I44 = q_rw I41 62 (fun _ => 0) → (∀ S45 : QS, S45 = q_sR S42 (q_u2 S42.2.2.2.2 51 15 (some 62)) → (∀ a47 : Nat, ∀ S46 : QS, S46 = q_nS S45 a47 9 16 → (∀ I48 : QI, I48 = q_rw I44 63 (fun _ => 0) → (∀ S49 : QS, S49 = q_sR S46 (q_u2 S46.2.2.2.2 51 17 (some 63)) → (∀ a51 : Nat, ∀ S50 : QS, S50 = q_nS S49 a51 9 24 → (∀ I52 : QI, I52 = q_rw I48 64 (fun _ => 0) → (∀ S53 : QS, S53 = q_sR S50 (q_u2 S50.2.2.2.2 51 18 (some 64)) → (∀ a55 : Nat, ∀ S54 : QS, S54 = q_nS S53 a55 10 24 → (∀ J56 : QJ, J56 = q_rw J 65 (fun _ => 0) → (∀ S57 : QS, S57 = q_sR S54 (q_u2 S54.2.2.2.2 51 19 (some 65)) → (∀ a59 : Nat, ∀ S58 : QS, S58 = q_nS S57 a59 9 28800 → (∀ I60 : QI, I60 = q_rw I52 66 (fun _ => 0) → (∀ S61 : QS, S61 = q_sR S58 (q_u2 S58.2.2.2.2 51 20 (some 66)) → (∀ a63 : Nat, ∀ S62 : QS, S62 = q_nS S61 a63 11 24 → (∀ I64 : QI, I64 = q_rw I60 67 (fun _ => 0) → (∀ S65 : QS, S65 = q_sR S62 (q_u2 S62.2.2.2.2 51 21 (some 67)) → (∀ a67 : Nat, ∀ S66 : QS, S66 = q_nS S65 a67 11 400 → (∀ I68 : QI, I68 = q_rw I64 68 (fun _ => 0) → (∀ S69 : QS, S69 = q_sR S66 (q_u2 S66.2.2.2.2 51 22 (some 68)) → (∀ a71 : Nat, ∀ S70 : QS, S70 = q_nS S69 a71 9 1200 → (∀ I72 : QI, I72 = q_rw I68 69 (fun _ => 0) → (∀ S73 : QS, S73 = q_sR S70 (q_u2 S70.2.2.2.2 51 23 (some 69)) → (∀ a75 : Nat, ∀ S74 : QS, S74 = q_nS S73 a75 9 64 → (∀ I76 : QI, I76 = q_rw I72 70 (fun _ => 0) → (∀ S77 : QS, S77 = q_sR S74 (q_u2 S74.2.2.2.2 51 25 (some 70)) → (∀ a79 : Nat, ∀ S78 : QS, S78 = q_nS S77 a79 9 64 → (∀ I80 : QI, I80 = q_rw I76 71 (fun _ => 0) → (∀ S81 : QS, S81 = q_sR S78 (q_u2 S78.2.2.2.2 51 26 (some 71)) → (∀ a83 : Nat, ∀ S82 : QS, S82 = q_nS S81 a83 9 64 → (∀ I84 : QI, I84 = q_rw I80 72 (fun _ => 0) → (∀ S85 : QS, S85 = q_sR S82 (q_u2 S82.2.2.2.2 51 28 (some 72)) → (∀ a87 : Nat, ∀ S86 : QS, S86 = q_nS S85 a87 9 64 → (∀ I88 : QI, I88 = q_rw I84 73 (fun _ => 0) → (∀ S89 : QS, S89 = q_sR S86 (q_u2 S86.2.2.2.2 51 29 (some 73)) → (∀ a91 : Nat, ∀ S90 : QS, S90 = q_nS S89 a91 9 64 → (∀ I92 : QI, I92 = q_rw I88 74 (fun _ => 0) → (∀ S93 : QS, S93 = q_sR S90 (q_u2 S90.2.2.2.2 51 30 (some 74)) → (∀ a95 : Nat, ∀ S94 : QS, S94 = q_nS S93 a95 9 24 → (∀ I96 : QI, I96 = q_rw I92 75 (fun _ => 0) → (∀ S97 : QS, S97 = q_sR S94 (q_u2 S94.2.2.2.2 51 31 (some 75)) → (∀ a99 : Nat, ∀ S98 : QS, S98 = q_nS S97 a99 9 16 → (∀ I100 : QI, I100 = q_rw I96 76 (fun _ => 0) → (∀ S101 : QS, S101 = q_sR S98 (q_u2 S98.2.2.2.2 51 33 (some 76)) → (∀ a103 : Nat, ∀ S102 : QS, S102 = q_nS S101 a103 9 16 → (∀ I104 : QI, I104 = q_rw I100 77 (fun _ => 0) → (∀ S105 : QS, S105 = q_sR S102 (q_u2 S102.2.2.2.2 51 34 (some 77)) → (∀ a107 : Nat, ∀ S106 : QS, S106 = q_nS S105 a107 11 10 → (∀ I108 : QI, I108 = q_rw I104 78 (fun _ => 0) → (∀ S109 : QS, S109 = q_sR S106 (q_u2 S106.2.2.2.2 51 35 (some 78)) → (post S109 I108 J56))))))))))))))))))))))))))))))))))))))))))))))))))))))))))))))))))))))))))))))))))) := h
  refine V_aload_n dX8_init_0 rfl rfl ?_
  refine V_objInit dX8_init_1 ml_RX8_1 ob_in ob_co (Nat.le_of_ble_eq_true rfl) ?_
  refine V_aload_n dX8_init_4 rfl rfl ?_
  refine V_iconst (v := 4) dX8_init_5 (by decide) ?_
  refine V_newI (z := 4) dX8_init_6 ac_int (by decide) (by decide) (by decide) (by rw [hN]; decide) hc (q_vbn hN rfl) (q_vbn hN rfl) (by decide) (by decide) (fun a2 => ?_)
  rw [hN]
  refine V_memS (fun S1 e_S1 => ?_)
  refine V_memI (fun I3 e_I3 => ?_)
  replace h := h a2 S1 e_S1 I3 e_I3
  have hM9 := hN
  have hN9 : S1.2.1 = 53 := by rw [e_S1]; show _ + 1 = 53; rw [hN]
  have hc9 : q_cl S1 := by rw [e_S1]; exact q_cl_new hc _ _ _
  have hE9 : Ex S S1 := by rw [e_S1]; exact hE.tr (Ex.new _ (by rw [hN]; decide) _ _ _)
  have hR9 : q_Rk 51 S S1 := by rw [e_S1]; exact hR.new hE.1 _ _ _
  have hK519 : S1.2.2.1 51 = 8 := by rw [e_S1]; exact (if_neg (by rw [hN]; decide)).trans hK51
  clear hc hE hR hK51  
  have hN := hN9
  have hc := hc9
  have hE := hE9
  have hR := hR9
  have hK51 := hK519
  clear hM9
  refine V_putF dX8_init_8 fl_RX8_9 rfl rfl rfl (by rw [hN]; decide) hK51 rfl (fun _ => rfl) (fun _ => rfl) ?_
  refine V_memS (fun S4 e_S4 => ?_)
  replace h := h S4 e_S4
  have hN9 : S4.2.1 = 53 := by rw [e_S4]; exact hN
  have hc9 : q_cl S4 := by rw [e_S4]; exact q_cl_put hc (by rw [hN]; decide)
  have hE9 : Ex S S4 := by rw [e_S4]; exact hE.tr (Ex.put _ _)
  have hR9 : q_Rk 51 S S4 := by rw [e_S4]; exact hR.put (Or.inl rfl)
  have hK519 : S4.2.2.1 51 = 8 := by rw [e_S4]; exact hK51
  clear hc hE hR hK51  
  have hN := hN9
  have hc := hc9
  have hE := hE9
  have hR := hR9
  have hK51 := hK519
  refine V_aload_n dX8_init_11 rfl rfl ?_
  refine V_iconst (v := 4) dX8_init_12 (by decide) ?_
  refine V_newI (z := 4) dX8_init_13 ac_int (by decide) (by decide) (by decide) (by rw [hN]; decide) hc (q_vbn hN rfl) (q_vbn hN rfl) (by decide) (by decide) (fun a6 => ?_)
  rw [hN]
  refine V_memS (fun S5 e_S5 => ?_)
  refine V_memI (fun I7 e_I7 => ?_)
  replace h := h a6 S5 e_S5 I7 e_I7
  have hM9 := hN
  have hN9 : S5.2.1 = 54 := by rw [e_S5]; show _ + 1 = 54; rw [hN]
  have hc9 : q_cl S5 := by rw [e_S5]; exact q_cl_new hc _ _ _
  have hE9 : Ex S S5 := by rw [e_S5]; exact hE.tr (Ex.new _ (by rw [hN]; decide) _ _ _)
  have hR9 : q_Rk 51 S S5 := by rw [e_S5]; exact hR.new hE.1 _ _ _
  have hK519 : S5.2.2.1 51 = 8 := by rw [e_S5]; exact (if_neg (by rw [hN]; decide)).trans hK51
  clear hc hE hR hK51  
  have hN := hN9
  have hc := hc9
  have hE := hE9
  have hR := hR9
  have hK51 := hK519
  clear hM9
  refine V_putF dX8_init_15 fl_RX8_13 rfl rfl rfl (by rw [hN]; decide) hK51 rfl (fun _ => rfl) (fun _ => rfl) ?_
  refine V_memS (fun S8 e_S8 => ?_)
  replace h := h S8 e_S8
  have hN9 : S8.2.1 = 54 := by rw [e_S8]; exact hN
  have hc9 : q_cl S8 := by rw [e_S8]; exact q_cl_put hc (by rw [hN]; decide)
  have hE9 : Ex S S8 := by rw [e_S8]; exact hE.tr (Ex.put _ _)
  have hR9 : q_Rk 51 S S8 := by rw [e_S8]; exact hR.put (Or.inl rfl)
  have hK519 : S8.2.2.1 51 = 8 := by rw [e_S8]; exact hK51
  clear hc hE hR hK51  
  have hN := hN9
  have hc := hc9
  have hE := hE9
  have hR := hR9
  have hK51 := hK519
  refine V_aload_n dX8_init_18 rfl rfl ?_
  refine V_bipush (v := 120) dX8_init_19 (by decide) ?_
  refine V_newI (z := 120) dX8_init_21 ac_int (by decide) (by decide) (by decide) (by rw [hN]; decide) hc (q_vbn hN rfl) (q_vbn hN rfl) (by decide) (by decide) (fun a10 => ?_)
  rw [hN]
  refine V_memS (fun S9 e_S9 => ?_)
  refine V_memI (fun I11 e_I11 => ?_)
  replace h := h a10 S9 e_S9 I11 e_I11
  have hM9 := hN
  have hN9 : S9.2.1 = 55 := by rw [e_S9]; show _ + 1 = 55; rw [hN]
  have hc9 : q_cl S9 := by rw [e_S9]; exact q_cl_new hc _ _ _
  have hE9 : Ex S S9 := by rw [e_S9]; exact hE.tr (Ex.new _ (by rw [hN]; decide) _ _ _)
  have hR9 : q_Rk 51 S S9 := by rw [e_S9]; exact hR.new hE.1 _ _ _
  have hK519 : S9.2.2.1 51 = 8 := by rw [e_S9]; exact (if_neg (by rw [hN]; decide)).trans hK51
  clear hc hE hR hK51  
  have hN := hN9
  have hc := hc9
  have hE := hE9
  have hR := hR9
  have hK51 := hK519
  clear hM9
  refine V_putF dX8_init_23 fl_RX8_16 rfl rfl rfl (by rw [hN]; decide) hK51 rfl (fun _ => rfl) (fun _ => rfl) ?_
  refine V_memS (fun S12 e_S12 => ?_)
  replace h := h S12 e_S12
  have hN9 : S12.2.1 = 55 := by rw [e_S12]; exact hN
  have hc9 : q_cl S12 := by rw [e_S12]; exact q_cl_put hc (by rw [hN]; decide)
  have hE9 : Ex S S12 := by rw [e_S12]; exact hE.tr (Ex.put _ _)
  have hR9 : q_Rk 51 S S12 := by rw [e_S12]; exact hR.put (Or.inl rfl)
  have hK519 : S12.2.2.1 51 = 8 := by rw [e_S12]; exact hK51
  clear hc hE hR hK51  
  have hN := hN9
  have hc := hc9
  have hE := hE9
  have hR := hR9
  have hK51 := hK519
  refine V_aload_n dX8_init_26 rfl rfl ?_
  refine V_bipush (v := 24) dX8_init_27 (by decide) ?_
  refine V_newI (z := 24) dX8_init_29 ac_int (by decide) (by decide) (by decide) (by rw [hN]; decide) hc (q_vbn hN rfl) (q_vbn hN rfl) (by decide) (by decide) (fun a14 => ?_)
  rw [hN]
  refine V_memS (fun S13 e_S13 => ?_)
  refine V_memI (fun I15 e_I15 => ?_)
  replace h := h a14 S13 e_S13 I15 e_I15
  have hM9 := hN
  have hN9 : S13.2.1 = 56 := by rw [e_S13]; show _ + 1 = 56; rw [hN]
  have hc9 : q_cl S13 := by rw [e_S13]; exact q_cl_new hc _ _ _
  have hE9 : Ex S S13 := by rw [e_S13]; exact hE.tr (Ex.new _ (by rw [hN]; decide) _ _ _)
  have hR9 : q_Rk 51 S S13 := by rw [e_S13]; exact hR.new hE.1 _ _ _
  have hK519 : S13.2.2.1 51 = 8 := by rw [e_S13]; exact (if_neg (by rw [hN]; decide)).trans hK51
  clear hc hE hR hK51  
  have hN := hN9
  have hc := hc9
  have hE := hE9
  have hR := hR9
  have hK51 := hK519
  clear hM9
  refine V_putF dX8_init_31 fl_RX8_19 rfl rfl rfl (by rw [hN]; decide) hK51 rfl (fun _ => rfl) (fun _ => rfl) ?_
  refine V_memS (fun S16 e_S16 => ?_)
  replace h := h S16 e_S16
  have hN9 : S16.2.1 = 56 := by rw [e_S16]; exact hN
  have hc9 : q_cl S16 := by rw [e_S16]; exact q_cl_put hc (by rw [hN]; decide)
  have hE9 : Ex S S16 := by rw [e_S16]; exact hE.tr (Ex.put _ _)
  have hR9 : q_Rk 51 S S16 := by rw [e_S16]; exact hR.put (Or.inl rfl)
  have hK519 : S16.2.2.1 51 = 8 := by rw [e_S16]; exact hK51
  clear hc hE hR hK51  
  have hN := hN9
  have hc := hc9
  have hE := hE9
  have hR := hR9
  have hK51 := hK519
  refine V_aload_n dX8_init_34 rfl rfl ?_
  refine V_bipush (v := 24) dX8_init_35 (by decide) ?_
  refine V_newI (z := 24) dX8_init_37 ac_int (by decide) (by decide) (by decide) (by rw [hN]; decide) hc (q_vbn hN rfl) (q_vbn hN rfl) (by decide) (by decide) (fun a18 => ?_)
  rw [hN]
  refine V_memS (fun S17 e_S17 => ?_)
  refine V_memI (fun I19 e_I19 => ?_)
  replace h := h a18 S17 e_S17 I19 e_I19
  have hM9 := hN
  have hN9 : S17.2.1 = 57 := by rw [e_S17]; show _ + 1 = 57; rw [hN]
  have hc9 : q_cl S17 := by rw [e_S17]; exact q_cl_new hc _ _ _
  have hE9 : Ex S S17 := by rw [e_S17]; exact hE.tr (Ex.new _ (by rw [hN]; decide) _ _ _)
  have hR9 : q_Rk 51 S S17 := by rw [e_S17]; exact hR.new hE.1 _ _ _
  have hK519 : S17.2.2.1 51 = 8 := by rw [e_S17]; exact (if_neg (by rw [hN]; decide)).trans hK51
  clear hc hE hR hK51  
  have hN := hN9
  have hc := hc9
  have hE := hE9
  have hR := hR9
  have hK51 := hK519
  clear hM9
  refine V_putF dX8_init_39 fl_RX8_22 rfl rfl rfl (by rw [hN]; decide) hK51 rfl (fun _ => rfl) (fun _ => rfl) ?_
  refine V_memS (fun S20 e_S20 => ?_)
  replace h := h S20 e_S20
  have hN9 : S20.2.1 = 57 := by rw [e_S20]; exact hN
  have hc9 : q_cl S20 := by rw [e_S20]; exact q_cl_put hc (by rw [hN]; decide)
  have hE9 : Ex S S20 := by rw [e_S20]; exact hE.tr (Ex.put _ _)
  have hR9 : q_Rk 51 S S20 := by rw [e_S20]; exact hR.put (Or.inl rfl)
  have hK519 : S20.2.2.1 51 = 8 := by rw [e_S20]; exact hK51
  clear hc hE hR hK51  
  have hN := hN9
  have hc := hc9
  have hE := hE9
  have hR := hR9
  have hK51 := hK519
  refine V_aload_n dX8_init_42 rfl rfl ?_
  refine V_bipush (v := 24) dX8_init_43 (by decide) ?_
  refine V_newI (z := 24) dX8_init_45 ac_int (by decide) (by decide) (by decide) (by rw [hN]; decide) hc (q_vbn hN rfl) (q_vbn hN rfl) (by decide) (by decide) (fun a22 => ?_)
  rw [hN]
  refine V_memS (fun S21 e_S21 => ?_)
  refine V_memI (fun I23 e_I23 => ?_)
  replace h := h a22 S21 e_S21 I23 e_I23
  have hM9 := hN
  have hN9 : S21.2.1 = 58 := by rw [e_S21]; show _ + 1 = 58; rw [hN]
  have hc9 : q_cl S21 := by rw [e_S21]; exact q_cl_new hc _ _ _
  have hE9 : Ex S S21 := by rw [e_S21]; exact hE.tr (Ex.new _ (by rw [hN]; decide) _ _ _)
  have hR9 : q_Rk 51 S S21 := by rw [e_S21]; exact hR.new hE.1 _ _ _
  have hK519 : S21.2.2.1 51 = 8 := by rw [e_S21]; exact (if_neg (by rw [hN]; decide)).trans hK51
  clear hc hE hR hK51  
  have hN := hN9
  have hc := hc9
  have hE := hE9
  have hR := hR9
  have hK51 := hK519
  clear hM9
  refine V_putF dX8_init_47 fl_RX8_25 rfl rfl rfl (by rw [hN]; decide) hK51 rfl (fun _ => rfl) (fun _ => rfl) ?_
  refine V_memS (fun S24 e_S24 => ?_)
  replace h := h S24 e_S24
  have hN9 : S24.2.1 = 58 := by rw [e_S24]; exact hN
  have hc9 : q_cl S24 := by rw [e_S24]; exact q_cl_put hc (by rw [hN]; decide)
  have hE9 : Ex S S24 := by rw [e_S24]; exact hE.tr (Ex.put _ _)
  have hR9 : q_Rk 51 S S24 := by rw [e_S24]; exact hR.put (Or.inl rfl)
  have hK519 : S24.2.2.1 51 = 8 := by rw [e_S24]; exact hK51
  clear hc hE hR hK51  
  have hN := hN9
  have hc := hc9
  have hE := hE9
  have hR := hR9
  have hK51 := hK519
  refine V_aload_n dX8_init_50 rfl rfl ?_
  refine V_bipush (v := 24) dX8_init_51 (by decide) ?_
  refine V_newI (z := 24) dX8_init_53 ac_int (by decide) (by decide) (by decide) (by rw [hN]; decide) hc (q_vbn hN rfl) (q_vbn hN rfl) (by decide) (by decide) (fun a26 => ?_)
  rw [hN]
  refine V_memS (fun S25 e_S25 => ?_)
  refine V_memI (fun I27 e_I27 => ?_)
  replace h := h a26 S25 e_S25 I27 e_I27
  have hM9 := hN
  have hN9 : S25.2.1 = 59 := by rw [e_S25]; show _ + 1 = 59; rw [hN]
  have hc9 : q_cl S25 := by rw [e_S25]; exact q_cl_new hc _ _ _
  have hE9 : Ex S S25 := by rw [e_S25]; exact hE.tr (Ex.new _ (by rw [hN]; decide) _ _ _)
  have hR9 : q_Rk 51 S S25 := by rw [e_S25]; exact hR.new hE.1 _ _ _
  have hK519 : S25.2.2.1 51 = 8 := by rw [e_S25]; exact (if_neg (by rw [hN]; decide)).trans hK51
  clear hc hE hR hK51  
  have hN := hN9
  have hc := hc9
  have hE := hE9
  have hR := hR9
  have hK51 := hK519
  clear hM9
  refine V_putF dX8_init_55 fl_RX8_28 rfl rfl rfl (by rw [hN]; decide) hK51 rfl (fun _ => rfl) (fun _ => rfl) ?_
  refine V_memS (fun S28 e_S28 => ?_)
  replace h := h S28 e_S28
  have hN9 : S28.2.1 = 59 := by rw [e_S28]; exact hN
  have hc9 : q_cl S28 := by rw [e_S28]; exact q_cl_put hc (by rw [hN]; decide)
  have hE9 : Ex S S28 := by rw [e_S28]; exact hE.tr (Ex.put _ _)
  have hR9 : q_Rk 51 S S28 := by rw [e_S28]; exact hR.put (Or.inl rfl)
  have hK519 : S28.2.2.1 51 = 8 := by rw [e_S28]; exact hK51
  clear hc hE hR hK51  
  have hN := hN9
  have hc := hc9
  have hE := hE9
  have hR := hR9
  have hK51 := hK519
  refine V_aload_n dX8_init_58 rfl rfl ?_
  refine V_bipush (v := 24) dX8_init_59 (by decide) ?_
  refine V_newI (z := 24) dX8_init_61 ac_int (by decide) (by decide) (by decide) (by rw [hN]; decide) hc (q_vbn hN rfl) (q_vbn hN rfl) (by decide) (by decide) (fun a30 => ?_)
  rw [hN]
  refine V_memS (fun S29 e_S29 => ?_)
  refine V_memI (fun I31 e_I31 => ?_)
  replace h := h a30 S29 e_S29 I31 e_I31
  have hM9 := hN
  have hN9 : S29.2.1 = 60 := by rw [e_S29]; show _ + 1 = 60; rw [hN]
  have hc9 : q_cl S29 := by rw [e_S29]; exact q_cl_new hc _ _ _
  have hE9 : Ex S S29 := by rw [e_S29]; exact hE.tr (Ex.new _ (by rw [hN]; decide) _ _ _)
  have hR9 : q_Rk 51 S S29 := by rw [e_S29]; exact hR.new hE.1 _ _ _
  have hK519 : S29.2.2.1 51 = 8 := by rw [e_S29]; exact (if_neg (by rw [hN]; decide)).trans hK51
  clear hc hE hR hK51  
  have hN := hN9
  have hc := hc9
  have hE := hE9
  have hR := hR9
  have hK51 := hK519
  clear hM9
  refine V_putF dX8_init_63 fl_RX8_31 rfl rfl rfl (by rw [hN]; decide) hK51 rfl (fun _ => rfl) (fun _ => rfl) ?_
  refine V_memS (fun S32 e_S32 => ?_)
  replace h := h S32 e_S32
  have hN9 : S32.2.1 = 60 := by rw [e_S32]; exact hN
  have hc9 : q_cl S32 := by rw [e_S32]; exact q_cl_put hc (by rw [hN]; decide)
  have hE9 : Ex S S32 := by rw [e_S32]; exact hE.tr (Ex.put _ _)
  have hR9 : q_Rk 51 S S32 := by rw [e_S32]; exact hR.put (Or.inl rfl)
  have hK519 : S32.2.2.1 51 = 8 := by rw [e_S32]; exact hK51
  clear hc hE hR hK51  
  have hN := hN9
  have hc := hc9
  have hE := hE9
  have hR := hR9
  have hK51 := hK519
  refine V_aload_n dX8_init_66 rfl rfl ?_
  refine V_bipush (v := 24) dX8_init_67 (by decide) ?_
  refine V_newI (z := 24) dX8_init_69 ac_int (by decide) (by decide) (by decide) (by rw [hN]; decide) hc (q_vbn hN rfl) (q_vbn hN rfl) (by decide) (by decide) (fun a34 => ?_)
  rw [hN]
  refine V_memS (fun S33 e_S33 => ?_)
  refine V_memI (fun I35 e_I35 => ?_)
  replace h := h a34 S33 e_S33 I35 e_I35
  have hM9 := hN
  have hN9 : S33.2.1 = 61 := by rw [e_S33]; show _ + 1 = 61; rw [hN]
  have hc9 : q_cl S33 := by rw [e_S33]; exact q_cl_new hc _ _ _
  have hE9 : Ex S S33 := by rw [e_S33]; exact hE.tr (Ex.new _ (by rw [hN]; decide) _ _ _)
  have hR9 : q_Rk 51 S S33 := by rw [e_S33]; exact hR.new hE.1 _ _ _
  have hK519 : S33.2.2.1 51 = 8 := by rw [e_S33]; exact (if_neg (by rw [hN]; decide)).trans hK51
  clear hc hE hR hK51  
  have hN := hN9
  have hc := hc9
  have hE := hE9
  have hR := hR9
  have hK51 := hK519
  clear hM9
  refine V_putF dX8_init_71 fl_RX8_34 rfl rfl rfl (by rw [hN]; decide) hK51 rfl (fun _ => rfl) (fun _ => rfl) ?_
  refine V_memS (fun S36 e_S36 => ?_)
  replace h := h S36 e_S36
  have hN9 : S36.2.1 = 61 := by rw [e_S36]; exact hN
  have hc9 : q_cl S36 := by rw [e_S36]; exact q_cl_put hc (by rw [hN]; decide)
  have hE9 : Ex S S36 := by rw [e_S36]; exact hE.tr (Ex.put _ _)
  have hR9 : q_Rk 51 S S36 := by rw [e_S36]; exact hR.put (Or.inl rfl)
  have hK519 : S36.2.2.1 51 = 8 := by rw [e_S36]; exact hK51
  clear hc hE hR hK51  
  have hN := hN9
  have hc := hc9
  have hE := hE9
  have hR := hR9
  have hK51 := hK519
  refine V_aload_n dX8_init_74 rfl rfl ?_
  refine V_bipush (v := 24) dX8_init_75 (by decide) ?_
  refine V_newI (z := 24) dX8_init_77 ac_int (by decide) (by decide) (by decide) (by rw [hN]; decide) hc (q_vbn hN rfl) (q_vbn hN rfl) (by decide) (by decide) (fun a38 => ?_)
  rw [hN]
  refine V_memS (fun S37 e_S37 => ?_)
  refine V_memI (fun I39 e_I39 => ?_)
  replace h := h a38 S37 e_S37 I39 e_I39
  have hM9 := hN
  have hN9 : S37.2.1 = 62 := by rw [e_S37]; show _ + 1 = 62; rw [hN]
  have hc9 : q_cl S37 := by rw [e_S37]; exact q_cl_new hc _ _ _
  have hE9 : Ex S S37 := by rw [e_S37]; exact hE.tr (Ex.new _ (by rw [hN]; decide) _ _ _)
  have hR9 : q_Rk 51 S S37 := by rw [e_S37]; exact hR.new hE.1 _ _ _
  have hK519 : S37.2.2.1 51 = 8 := by rw [e_S37]; exact (if_neg (by rw [hN]; decide)).trans hK51
  clear hc hE hR hK51  
  have hN := hN9
  have hc := hc9
  have hE := hE9
  have hR := hR9
  have hK51 := hK519
  clear hM9
  refine V_putF dX8_init_79 fl_RX8_37 rfl rfl rfl (by rw [hN]; decide) hK51 rfl (fun _ => rfl) (fun _ => rfl) ?_
  refine V_memS (fun S40 e_S40 => ?_)
  replace h := h S40 e_S40
  have hN9 : S40.2.1 = 62 := by rw [e_S40]; exact hN
  have hc9 : q_cl S40 := by rw [e_S40]; exact q_cl_put hc (by rw [hN]; decide)
  have hE9 : Ex S S40 := by rw [e_S40]; exact hE.tr (Ex.put _ _)
  have hR9 : q_Rk 51 S S40 := by rw [e_S40]; exact hR.put (Or.inl rfl)
  have hK519 : S40.2.2.1 51 = 8 := by rw [e_S40]; exact hK51
  clear hc hE hR hK51  
  have hN := hN9
  have hc := hc9
  have hE := hE9
  have hR := hR9
  have hK51 := hK519
  refine V_aload_n dX8_init_82 rfl rfl ?_
  refine V_ldc dX8_init_83 co_RX8_40 ?_
  refine V_puti dX8_init_85 fl_RX8_41 rfl (by rw [hN]; decide) hK51 rfl rfl rfl ?_
  refine V_memI (fun I41 e_I41 => ?_)
  replace h := h I41 e_I41
  refine V_aload_n dX8_init_88 rfl rfl ?_
  refine V_bipush (v := 24) dX8_init_89 (by decide) ?_
  refine V_newI (z := 24) dX8_init_91 ac_int (by decide) (by decide) (by decide) (by rw [hN]; decide) hc (q_vbn hN rfl) (q_vbn hN rfl) (by decide) (by decide) (fun a43 => ?_)
  rw [hN]
  refine V_memS (fun S42 e_S42 => ?_)
  refine V_memI (fun I44 e_I44 => ?_)
  replace h := h a43 S42 e_S42 I44 e_I44
  have hM9 := hN
  have hN9 : S42.2.1 = 63 := by rw [e_S42]; show _ + 1 = 63; rw [hN]
  have hc9 : q_cl S42 := by rw [e_S42]; exact q_cl_new hc _ _ _
  have hE9 : Ex S S42 := by rw [e_S42]; exact hE.tr (Ex.new _ (by rw [hN]; decide) _ _ _)
  have hR9 : q_Rk 51 S S42 := by rw [e_S42]; exact hR.new hE.1 _ _ _
  have hK519 : S42.2.2.1 51 = 8 := by rw [e_S42]; exact (if_neg (by rw [hN]; decide)).trans hK51
  clear hc hE hR hK51  
  have hN := hN9
  have hc := hc9
  have hE := hE9
  have hR := hR9
  have hK51 := hK519
  clear hM9
  refine V_putF dX8_init_93 fl_RX8_45 rfl rfl rfl (by rw [hN]; decide) hK51 rfl (fun _ => rfl) (fun _ => rfl) ?_
  refine V_memS (fun S45 e_S45 => ?_)
  replace h := h S45 e_S45
  have hN9 : S45.2.1 = 63 := by rw [e_S45]; exact hN
  have hc9 : q_cl S45 := by rw [e_S45]; exact q_cl_put hc (by rw [hN]; decide)
  have hE9 : Ex S S45 := by rw [e_S45]; exact hE.tr (Ex.put _ _)
  have hR9 : q_Rk 51 S S45 := by rw [e_S45]; exact hR.put (Or.inl rfl)
  have hK519 : S45.2.2.1 51 = 8 := by rw [e_S45]; exact hK51
  clear hc hE hR hK51  
  have hN := hN9
  have hc := hc9
  have hE := hE9
  have hR := hR9
  have hK51 := hK519
  refine V_aload_n dX8_init_96 rfl rfl ?_
  refine V_bipush (v := 16) dX8_init_97 (by decide) ?_
  refine V_newI (z := 16) dX8_init_99 ac_int (by decide) (by decide) (by decide) (by rw [hN]; decide) hc (q_vbn hN rfl) (q_vbn hN rfl) (by decide) (by decide) (fun a47 => ?_)
  rw [hN]
  refine V_memS (fun S46 e_S46 => ?_)
  refine V_memI (fun I48 e_I48 => ?_)
  replace h := h a47 S46 e_S46 I48 e_I48
  have hM9 := hN
  have hN9 : S46.2.1 = 64 := by rw [e_S46]; show _ + 1 = 64; rw [hN]
  have hc9 : q_cl S46 := by rw [e_S46]; exact q_cl_new hc _ _ _
  have hE9 : Ex S S46 := by rw [e_S46]; exact hE.tr (Ex.new _ (by rw [hN]; decide) _ _ _)
  have hR9 : q_Rk 51 S S46 := by rw [e_S46]; exact hR.new hE.1 _ _ _
  have hK519 : S46.2.2.1 51 = 8 := by rw [e_S46]; exact (if_neg (by rw [hN]; decide)).trans hK51
  clear hc hE hR hK51  
  have hN := hN9
  have hc := hc9
  have hE := hE9
  have hR := hR9
  have hK51 := hK519
  clear hM9
  refine V_putF dX8_init_101 fl_RX8_48 rfl rfl rfl (by rw [hN]; decide) hK51 rfl (fun _ => rfl) (fun _ => rfl) ?_
  refine V_memS (fun S49 e_S49 => ?_)
  replace h := h S49 e_S49
  have hN9 : S49.2.1 = 64 := by rw [e_S49]; exact hN
  have hc9 : q_cl S49 := by rw [e_S49]; exact q_cl_put hc (by rw [hN]; decide)
  have hE9 : Ex S S49 := by rw [e_S49]; exact hE.tr (Ex.put _ _)
  have hR9 : q_Rk 51 S S49 := by rw [e_S49]; exact hR.put (Or.inl rfl)
  have hK519 : S49.2.2.1 51 = 8 := by rw [e_S49]; exact hK51
  clear hc hE hR hK51  
  have hN := hN9
  have hc := hc9
  have hE := hE9
  have hR := hR9
  have hK51 := hK519
  refine V_aload_n dX8_init_104 rfl rfl ?_
  refine V_bipush (v := 24) dX8_init_105 (by decide) ?_
  refine V_newI (z := 24) dX8_init_107 ac_int (by decide) (by decide) (by decide) (by rw [hN]; decide) hc (q_vbn hN rfl) (q_vbn hN rfl) (by decide) (by decide) (fun a51 => ?_)
  rw [hN]
  refine V_memS (fun S50 e_S50 => ?_)
  refine V_memI (fun I52 e_I52 => ?_)
  replace h := h a51 S50 e_S50 I52 e_I52
  have hM9 := hN
  have hN9 : S50.2.1 = 65 := by rw [e_S50]; show _ + 1 = 65; rw [hN]
  have hc9 : q_cl S50 := by rw [e_S50]; exact q_cl_new hc _ _ _
  have hE9 : Ex S S50 := by rw [e_S50]; exact hE.tr (Ex.new _ (by rw [hN]; decide) _ _ _)
  have hR9 : q_Rk 51 S S50 := by rw [e_S50]; exact hR.new hE.1 _ _ _
  have hK519 : S50.2.2.1 51 = 8 := by rw [e_S50]; exact (if_neg (by rw [hN]; decide)).trans hK51
  clear hc hE hR hK51  
  have hN := hN9
  have hc := hc9
  have hE := hE9
  have hR := hR9
  have hK51 := hK519
  clear hM9
  refine V_putF dX8_init_109 fl_RX8_51 rfl rfl rfl (by rw [hN]; decide) hK51 rfl (fun _ => rfl) (fun _ => rfl) ?_
  refine V_memS (fun S53 e_S53 => ?_)
  replace h := h S53 e_S53
  have hN9 : S53.2.1 = 65 := by rw [e_S53]; exact hN
  have hc9 : q_cl S53 := by rw [e_S53]; exact q_cl_put hc (by rw [hN]; decide)
  have hE9 : Ex S S53 := by rw [e_S53]; exact hE.tr (Ex.put _ _)
  have hR9 : q_Rk 51 S S53 := by rw [e_S53]; exact hR.put (Or.inl rfl)
  have hK519 : S53.2.2.1 51 = 8 := by rw [e_S53]; exact hK51
  clear hc hE hR hK51  
  have hN := hN9
  have hc := hc9
  have hE := hE9
  have hR := hR9
  have hK51 := hK519
  refine V_aload_n dX8_init_112 rfl rfl ?_
  refine V_bipush (v := 24) dX8_init_113 (by decide) ?_
  refine V_newJ (z := 24) dX8_init_115 ac_long (by decide) (by decide) (by decide) (by rw [hN]; decide) hc (q_vbn hN rfl) (q_vbn hN rfl) (by decide) (by decide) (fun a55 => ?_)
  rw [hN]
  refine V_memS (fun S54 e_S54 => ?_)
  refine V_memJ (fun J56 e_J56 => ?_)
  replace h := h a55 S54 e_S54 J56 e_J56
  have hM9 := hN
  have hN9 : S54.2.1 = 66 := by rw [e_S54]; show _ + 1 = 66; rw [hN]
  have hc9 : q_cl S54 := by rw [e_S54]; exact q_cl_new hc _ _ _
  have hE9 : Ex S S54 := by rw [e_S54]; exact hE.tr (Ex.new _ (by rw [hN]; decide) _ _ _)
  have hR9 : q_Rk 51 S S54 := by rw [e_S54]; exact hR.new hE.1 _ _ _
  have hK519 : S54.2.2.1 51 = 8 := by rw [e_S54]; exact (if_neg (by rw [hN]; decide)).trans hK51
  clear hc hE hR hK51  
  have hN := hN9
  have hc := hc9
  have hE := hE9
  have hR := hR9
  have hK51 := hK519
  clear hM9
  refine V_putF dX8_init_117 fl_RX8_54 rfl rfl rfl (by rw [hN]; decide) hK51 rfl (fun _ => rfl) (fun _ => rfl) ?_
  refine V_memS (fun S57 e_S57 => ?_)
  replace h := h S57 e_S57
  have hN9 : S57.2.1 = 66 := by rw [e_S57]; exact hN
  have hc9 : q_cl S57 := by rw [e_S57]; exact q_cl_put hc (by rw [hN]; decide)
  have hE9 : Ex S S57 := by rw [e_S57]; exact hE.tr (Ex.put _ _)
  have hR9 : q_Rk 51 S S57 := by rw [e_S57]; exact hR.put (Or.inl rfl)
  have hK519 : S57.2.2.1 51 = 8 := by rw [e_S57]; exact hK51
  clear hc hE hR hK51  
  have hN := hN9
  have hc := hc9
  have hE := hE9
  have hR := hR9
  have hK51 := hK519
  refine V_aload_n dX8_init_120 rfl rfl ?_
  refine V_sipush (v := 28800) dX8_init_121 (by decide) ?_
  refine V_newI (z := 28800) dX8_init_124 ac_int (by decide) (by decide) (by decide) (by rw [hN]; decide) hc (q_vbn hN rfl) (q_vbn hN rfl) (by decide) (by decide) (fun a59 => ?_)
  rw [hN]
  refine V_memS (fun S58 e_S58 => ?_)
  refine V_memI (fun I60 e_I60 => ?_)
  replace h := h a59 S58 e_S58 I60 e_I60
  have hM9 := hN
  have hN9 : S58.2.1 = 67 := by rw [e_S58]; show _ + 1 = 67; rw [hN]
  have hc9 : q_cl S58 := by rw [e_S58]; exact q_cl_new hc _ _ _
  have hE9 : Ex S S58 := by rw [e_S58]; exact hE.tr (Ex.new _ (by rw [hN]; decide) _ _ _)
  have hR9 : q_Rk 51 S S58 := by rw [e_S58]; exact hR.new hE.1 _ _ _
  have hK519 : S58.2.2.1 51 = 8 := by rw [e_S58]; exact (if_neg (by rw [hN]; decide)).trans hK51
  clear hc hE hR hK51  
  have hN := hN9
  have hc := hc9
  have hE := hE9
  have hR := hR9
  have hK51 := hK519
  clear hM9
  refine V_putF dX8_init_126 fl_RX8_58 rfl rfl rfl (by rw [hN]; decide) hK51 rfl (fun _ => rfl) (fun _ => rfl) ?_
  refine V_memS (fun S61 e_S61 => ?_)
  replace h := h S61 e_S61
  have hN9 : S61.2.1 = 67 := by rw [e_S61]; exact hN
  have hc9 : q_cl S61 := by rw [e_S61]; exact q_cl_put hc (by rw [hN]; decide)
  have hE9 : Ex S S61 := by rw [e_S61]; exact hE.tr (Ex.put _ _)
  have hR9 : q_Rk 51 S S61 := by rw [e_S61]; exact hR.put (Or.inl rfl)
  have hK519 : S61.2.2.1 51 = 8 := by rw [e_S61]; exact hK51
  clear hc hE hR hK51  
  have hN := hN9
  have hc := hc9
  have hE := hE9
  have hR := hR9
  have hK51 := hK519
  refine V_aload_n dX8_init_129 rfl rfl ?_
  refine V_bipush (v := 24) dX8_init_130 (by decide) ?_
  refine V_newZ (z := 24) dX8_init_132 ac_boolean (by decide) (by decide) (by decide) (by rw [hN]; decide) hc (q_vbn hN rfl) (q_vbn hN rfl) (by decide) (by decide) (fun a63 => ?_)
  rw [hN]
  refine V_memS (fun S62 e_S62 => ?_)
  refine V_memI (fun I64 e_I64 => ?_)
  replace h := h a63 S62 e_S62 I64 e_I64
  have hM9 := hN
  have hN9 : S62.2.1 = 68 := by rw [e_S62]; show _ + 1 = 68; rw [hN]
  have hc9 : q_cl S62 := by rw [e_S62]; exact q_cl_new hc _ _ _
  have hE9 : Ex S S62 := by rw [e_S62]; exact hE.tr (Ex.new _ (by rw [hN]; decide) _ _ _)
  have hR9 : q_Rk 51 S S62 := by rw [e_S62]; exact hR.new hE.1 _ _ _
  have hK519 : S62.2.2.1 51 = 8 := by rw [e_S62]; exact (if_neg (by rw [hN]; decide)).trans hK51
  clear hc hE hR hK51  
  have hN := hN9
  have hc := hc9
  have hE := hE9
  have hR := hR9
  have hK51 := hK519
  clear hM9
  refine V_putF dX8_init_134 fl_RX8_61 rfl rfl rfl (by rw [hN]; decide) hK51 rfl (fun _ => rfl) (fun _ => rfl) ?_
  refine V_memS (fun S65 e_S65 => ?_)
  replace h := h S65 e_S65
  have hN9 : S65.2.1 = 68 := by rw [e_S65]; exact hN
  have hc9 : q_cl S65 := by rw [e_S65]; exact q_cl_put hc (by rw [hN]; decide)
  have hE9 : Ex S S65 := by rw [e_S65]; exact hE.tr (Ex.put _ _)
  have hR9 : q_Rk 51 S S65 := by rw [e_S65]; exact hR.put (Or.inl rfl)
  have hK519 : S65.2.2.1 51 = 8 := by rw [e_S65]; exact hK51
  clear hc hE hR hK51  
  have hN := hN9
  have hc := hc9
  have hE := hE9
  have hR := hR9
  have hK51 := hK519
  refine V_aload_n dX8_init_137 rfl rfl ?_
  refine V_sipush (v := 400) dX8_init_138 (by decide) ?_
  refine V_newZ (z := 400) dX8_init_141 ac_boolean (by decide) (by decide) (by decide) (by rw [hN]; decide) hc (q_vbn hN rfl) (q_vbn hN rfl) (by decide) (by decide) (fun a67 => ?_)
  rw [hN]
  refine V_memS (fun S66 e_S66 => ?_)
  refine V_memI (fun I68 e_I68 => ?_)
  replace h := h a67 S66 e_S66 I68 e_I68
  have hM9 := hN
  have hN9 : S66.2.1 = 69 := by rw [e_S66]; show _ + 1 = 69; rw [hN]
  have hc9 : q_cl S66 := by rw [e_S66]; exact q_cl_new hc _ _ _
  have hE9 : Ex S S66 := by rw [e_S66]; exact hE.tr (Ex.new _ (by rw [hN]; decide) _ _ _)
  have hR9 : q_Rk 51 S S66 := by rw [e_S66]; exact hR.new hE.1 _ _ _
  have hK519 : S66.2.2.1 51 = 8 := by rw [e_S66]; exact (if_neg (by rw [hN]; decide)).trans hK51
  clear hc hE hR hK51  
  have hN := hN9
  have hc := hc9
  have hE := hE9
  have hR := hR9
  have hK51 := hK519
  clear hM9
  refine V_putF dX8_init_143 fl_RX8_65 rfl rfl rfl (by rw [hN]; decide) hK51 rfl (fun _ => rfl) (fun _ => rfl) ?_
  refine V_memS (fun S69 e_S69 => ?_)
  replace h := h S69 e_S69
  have hN9 : S69.2.1 = 69 := by rw [e_S69]; exact hN
  have hc9 : q_cl S69 := by rw [e_S69]; exact q_cl_put hc (by rw [hN]; decide)
  have hE9 : Ex S S69 := by rw [e_S69]; exact hE.tr (Ex.put _ _)
  have hR9 : q_Rk 51 S S69 := by rw [e_S69]; exact hR.put (Or.inl rfl)
  have hK519 : S69.2.2.1 51 = 8 := by rw [e_S69]; exact hK51
  clear hc hE hR hK51  
  have hN := hN9
  have hc := hc9
  have hE := hE9
  have hR := hR9
  have hK51 := hK519
  refine V_aload_n dX8_init_146 rfl rfl ?_
  refine V_sipush (v := 1200) dX8_init_147 (by decide) ?_
  refine V_newI (z := 1200) dX8_init_150 ac_int (by decide) (by decide) (by decide) (by rw [hN]; decide) hc (q_vbn hN rfl) (q_vbn hN rfl) (by decide) (by decide) (fun a71 => ?_)
  rw [hN]
  refine V_memS (fun S70 e_S70 => ?_)
  refine V_memI (fun I72 e_I72 => ?_)
  replace h := h a71 S70 e_S70 I72 e_I72
  have hM9 := hN
  have hN9 : S70.2.1 = 70 := by rw [e_S70]; show _ + 1 = 70; rw [hN]
  have hc9 : q_cl S70 := by rw [e_S70]; exact q_cl_new hc _ _ _
  have hE9 : Ex S S70 := by rw [e_S70]; exact hE.tr (Ex.new _ (by rw [hN]; decide) _ _ _)
  have hR9 : q_Rk 51 S S70 := by rw [e_S70]; exact hR.new hE.1 _ _ _
  have hK519 : S70.2.2.1 51 = 8 := by rw [e_S70]; exact (if_neg (by rw [hN]; decide)).trans hK51
  clear hc hE hR hK51  
  have hN := hN9
  have hc := hc9
  have hE := hE9
  have hR := hR9
  have hK51 := hK519
  clear hM9
  refine V_putF dX8_init_152 fl_RX8_68 rfl rfl rfl (by rw [hN]; decide) hK51 rfl (fun _ => rfl) (fun _ => rfl) ?_
  refine V_memS (fun S73 e_S73 => ?_)
  replace h := h S73 e_S73
  have hN9 : S73.2.1 = 70 := by rw [e_S73]; exact hN
  have hc9 : q_cl S73 := by rw [e_S73]; exact q_cl_put hc (by rw [hN]; decide)
  have hE9 : Ex S S73 := by rw [e_S73]; exact hE.tr (Ex.put _ _)
  have hR9 : q_Rk 51 S S73 := by rw [e_S73]; exact hR.put (Or.inl rfl)
  have hK519 : S73.2.2.1 51 = 8 := by rw [e_S73]; exact hK51
  clear hc hE hR hK51  
  have hN := hN9
  have hc := hc9
  have hE := hE9
  have hR := hR9
  have hK51 := hK519
  refine V_aload_n dX8_init_155 rfl rfl ?_
  refine V_bipush (v := 64) dX8_init_156 (by decide) ?_
  refine V_newI (z := 64) dX8_init_158 ac_int (by decide) (by decide) (by decide) (by rw [hN]; decide) hc (q_vbn hN rfl) (q_vbn hN rfl) (by decide) (by decide) (fun a75 => ?_)
  rw [hN]
  refine V_memS (fun S74 e_S74 => ?_)
  refine V_memI (fun I76 e_I76 => ?_)
  replace h := h a75 S74 e_S74 I76 e_I76
  have hM9 := hN
  have hN9 : S74.2.1 = 71 := by rw [e_S74]; show _ + 1 = 71; rw [hN]
  have hc9 : q_cl S74 := by rw [e_S74]; exact q_cl_new hc _ _ _
  have hE9 : Ex S S74 := by rw [e_S74]; exact hE.tr (Ex.new _ (by rw [hN]; decide) _ _ _)
  have hR9 : q_Rk 51 S S74 := by rw [e_S74]; exact hR.new hE.1 _ _ _
  have hK519 : S74.2.2.1 51 = 8 := by rw [e_S74]; exact (if_neg (by rw [hN]; decide)).trans hK51
  clear hc hE hR hK51  
  have hN := hN9
  have hc := hc9
  have hE := hE9
  have hR := hR9
  have hK51 := hK519
  clear hM9
  refine V_putr dX8_init_160 fl_RX8_71 rfl (by rw [hN]; decide) hK51 rfl (fun _ => rfl) (fun _ => rfl) ?_
  refine V_memS (fun S77 e_S77 => ?_)
  replace h := h S77 e_S77
  have hN9 : S77.2.1 = 71 := by rw [e_S77]; exact hN
  have hc9 : q_cl S77 := by rw [e_S77]; exact q_cl_put hc (by rw [hN]; decide)
  have hE9 : Ex S S77 := by rw [e_S77]; exact hE.tr (Ex.put _ _)
  have hR9 : q_Rk 51 S S77 := by rw [e_S77]; exact hR.put (Or.inl rfl)
  have hK519 : S77.2.2.1 51 = 8 := by rw [e_S77]; exact hK51
  clear hc hE hR hK51  
  have hN := hN9
  have hc := hc9
  have hE := hE9
  have hR := hR9
  have hK51 := hK519
  refine V_aload_n dX8_init_163 rfl rfl ?_
  refine V_bipush (v := 64) dX8_init_164 (by decide) ?_
  refine V_newI (z := 64) dX8_init_166 ac_int (by decide) (by decide) (by decide) (by rw [hN]; decide) hc (q_vbn hN rfl) (q_vbn hN rfl) (by decide) (by decide) (fun a79 => ?_)
  rw [hN]
  refine V_memS (fun S78 e_S78 => ?_)
  refine V_memI (fun I80 e_I80 => ?_)
  replace h := h a79 S78 e_S78 I80 e_I80
  have hM9 := hN
  have hN9 : S78.2.1 = 72 := by rw [e_S78]; show _ + 1 = 72; rw [hN]
  have hc9 : q_cl S78 := by rw [e_S78]; exact q_cl_new hc _ _ _
  have hE9 : Ex S S78 := by rw [e_S78]; exact hE.tr (Ex.new _ (by rw [hN]; decide) _ _ _)
  have hR9 : q_Rk 51 S S78 := by rw [e_S78]; exact hR.new hE.1 _ _ _
  have hK519 : S78.2.2.1 51 = 8 := by rw [e_S78]; exact (if_neg (by rw [hN]; decide)).trans hK51
  clear hc hE hR hK51  
  have hN := hN9
  have hc := hc9
  have hE := hE9
  have hR := hR9
  have hK51 := hK519
  clear hM9
  refine V_putr dX8_init_168 fl_RX8_74 rfl (by rw [hN]; decide) hK51 rfl (fun _ => rfl) (fun _ => rfl) ?_
  refine V_memS (fun S81 e_S81 => ?_)
  replace h := h S81 e_S81
  have hN9 : S81.2.1 = 72 := by rw [e_S81]; exact hN
  have hc9 : q_cl S81 := by rw [e_S81]; exact q_cl_put hc (by rw [hN]; decide)
  have hE9 : Ex S S81 := by rw [e_S81]; exact hE.tr (Ex.put _ _)
  have hR9 : q_Rk 51 S S81 := by rw [e_S81]; exact hR.put (Or.inl rfl)
  have hK519 : S81.2.2.1 51 = 8 := by rw [e_S81]; exact hK51
  clear hc hE hR hK51  
  have hN := hN9
  have hc := hc9
  have hE := hE9
  have hR := hR9
  have hK51 := hK519
  refine V_aload_n dX8_init_171 rfl rfl ?_
  refine V_bipush (v := 64) dX8_init_172 (by decide) ?_
  refine V_newI (z := 64) dX8_init_174 ac_int (by decide) (by decide) (by decide) (by rw [hN]; decide) hc (q_vbn hN rfl) (q_vbn hN rfl) (by decide) (by decide) (fun a83 => ?_)
  rw [hN]
  refine V_memS (fun S82 e_S82 => ?_)
  refine V_memI (fun I84 e_I84 => ?_)
  replace h := h a83 S82 e_S82 I84 e_I84
  have hM9 := hN
  have hN9 : S82.2.1 = 73 := by rw [e_S82]; show _ + 1 = 73; rw [hN]
  have hc9 : q_cl S82 := by rw [e_S82]; exact q_cl_new hc _ _ _
  have hE9 : Ex S S82 := by rw [e_S82]; exact hE.tr (Ex.new _ (by rw [hN]; decide) _ _ _)
  have hR9 : q_Rk 51 S S82 := by rw [e_S82]; exact hR.new hE.1 _ _ _
  have hK519 : S82.2.2.1 51 = 8 := by rw [e_S82]; exact (if_neg (by rw [hN]; decide)).trans hK51
  clear hc hE hR hK51  
  have hN := hN9
  have hc := hc9
  have hE := hE9
  have hR := hR9
  have hK51 := hK519
  clear hM9
  refine V_putr dX8_init_176 fl_RX8_77 rfl (by rw [hN]; decide) hK51 rfl (fun _ => rfl) (fun _ => rfl) ?_
  refine V_memS (fun S85 e_S85 => ?_)
  replace h := h S85 e_S85
  have hN9 : S85.2.1 = 73 := by rw [e_S85]; exact hN
  have hc9 : q_cl S85 := by rw [e_S85]; exact q_cl_put hc (by rw [hN]; decide)
  have hE9 : Ex S S85 := by rw [e_S85]; exact hE.tr (Ex.put _ _)
  have hR9 : q_Rk 51 S S85 := by rw [e_S85]; exact hR.put (Or.inl rfl)
  have hK519 : S85.2.2.1 51 = 8 := by rw [e_S85]; exact hK51
  clear hc hE hR hK51  
  have hN := hN9
  have hc := hc9
  have hE := hE9
  have hR := hR9
  have hK51 := hK519
  refine V_aload_n dX8_init_179 rfl rfl ?_
  refine V_bipush (v := 64) dX8_init_180 (by decide) ?_
  refine V_newI (z := 64) dX8_init_182 ac_int (by decide) (by decide) (by decide) (by rw [hN]; decide) hc (q_vbn hN rfl) (q_vbn hN rfl) (by decide) (by decide) (fun a87 => ?_)
  rw [hN]
  refine V_memS (fun S86 e_S86 => ?_)
  refine V_memI (fun I88 e_I88 => ?_)
  replace h := h a87 S86 e_S86 I88 e_I88
  have hM9 := hN
  have hN9 : S86.2.1 = 74 := by rw [e_S86]; show _ + 1 = 74; rw [hN]
  have hc9 : q_cl S86 := by rw [e_S86]; exact q_cl_new hc _ _ _
  have hE9 : Ex S S86 := by rw [e_S86]; exact hE.tr (Ex.new _ (by rw [hN]; decide) _ _ _)
  have hR9 : q_Rk 51 S S86 := by rw [e_S86]; exact hR.new hE.1 _ _ _
  have hK519 : S86.2.2.1 51 = 8 := by rw [e_S86]; exact (if_neg (by rw [hN]; decide)).trans hK51
  clear hc hE hR hK51  
  have hN := hN9
  have hc := hc9
  have hE := hE9
  have hR := hR9
  have hK51 := hK519
  clear hM9
  refine V_putr dX8_init_184 fl_RX8_80 rfl (by rw [hN]; decide) hK51 rfl (fun _ => rfl) (fun _ => rfl) ?_
  refine V_memS (fun S89 e_S89 => ?_)
  replace h := h S89 e_S89
  have hN9 : S89.2.1 = 74 := by rw [e_S89]; exact hN
  have hc9 : q_cl S89 := by rw [e_S89]; exact q_cl_put hc (by rw [hN]; decide)
  have hE9 : Ex S S89 := by rw [e_S89]; exact hE.tr (Ex.put _ _)
  have hR9 : q_Rk 51 S S89 := by rw [e_S89]; exact hR.put (Or.inl rfl)
  have hK519 : S89.2.2.1 51 = 8 := by rw [e_S89]; exact hK51
  clear hc hE hR hK51  
  have hN := hN9
  have hc := hc9
  have hE := hE9
  have hR := hR9
  have hK51 := hK519
  refine V_aload_n dX8_init_187 rfl rfl ?_
  refine V_bipush (v := 64) dX8_init_188 (by decide) ?_
  refine V_newI (z := 64) dX8_init_190 ac_int (by decide) (by decide) (by decide) (by rw [hN]; decide) hc (q_vbn hN rfl) (q_vbn hN rfl) (by decide) (by decide) (fun a91 => ?_)
  rw [hN]
  refine V_memS (fun S90 e_S90 => ?_)
  refine V_memI (fun I92 e_I92 => ?_)
  replace h := h a91 S90 e_S90 I92 e_I92
  have hM9 := hN
  have hN9 : S90.2.1 = 75 := by rw [e_S90]; show _ + 1 = 75; rw [hN]
  have hc9 : q_cl S90 := by rw [e_S90]; exact q_cl_new hc _ _ _
  have hE9 : Ex S S90 := by rw [e_S90]; exact hE.tr (Ex.new _ (by rw [hN]; decide) _ _ _)
  have hR9 : q_Rk 51 S S90 := by rw [e_S90]; exact hR.new hE.1 _ _ _
  have hK519 : S90.2.2.1 51 = 8 := by rw [e_S90]; exact (if_neg (by rw [hN]; decide)).trans hK51
  clear hc hE hR hK51  
  have hN := hN9
  have hc := hc9
  have hE := hE9
  have hR := hR9
  have hK51 := hK519
  clear hM9
  refine V_putr dX8_init_192 fl_RX8_83 rfl (by rw [hN]; decide) hK51 rfl (fun _ => rfl) (fun _ => rfl) ?_
  refine V_memS (fun S93 e_S93 => ?_)
  replace h := h S93 e_S93
  have hN9 : S93.2.1 = 75 := by rw [e_S93]; exact hN
  have hc9 : q_cl S93 := by rw [e_S93]; exact q_cl_put hc (by rw [hN]; decide)
  have hE9 : Ex S S93 := by rw [e_S93]; exact hE.tr (Ex.put _ _)
  have hR9 : q_Rk 51 S S93 := by rw [e_S93]; exact hR.put (Or.inl rfl)
  have hK519 : S93.2.2.1 51 = 8 := by rw [e_S93]; exact hK51
  clear hc hE hR hK51  
  have hN := hN9
  have hc := hc9
  have hE := hE9
  have hR := hR9
  have hK51 := hK519
  refine V_aload_n dX8_init_195 rfl rfl ?_
  refine V_bipush (v := 24) dX8_init_196 (by decide) ?_
  refine V_newI (z := 24) dX8_init_198 ac_int (by decide) (by decide) (by decide) (by rw [hN]; decide) hc (q_vbn hN rfl) (q_vbn hN rfl) (by decide) (by decide) (fun a95 => ?_)
  rw [hN]
  refine V_memS (fun S94 e_S94 => ?_)
  refine V_memI (fun I96 e_I96 => ?_)
  replace h := h a95 S94 e_S94 I96 e_I96
  have hM9 := hN
  have hN9 : S94.2.1 = 76 := by rw [e_S94]; show _ + 1 = 76; rw [hN]
  have hc9 : q_cl S94 := by rw [e_S94]; exact q_cl_new hc _ _ _
  have hE9 : Ex S S94 := by rw [e_S94]; exact hE.tr (Ex.new _ (by rw [hN]; decide) _ _ _)
  have hR9 : q_Rk 51 S S94 := by rw [e_S94]; exact hR.new hE.1 _ _ _
  have hK519 : S94.2.2.1 51 = 8 := by rw [e_S94]; exact (if_neg (by rw [hN]; decide)).trans hK51
  clear hc hE hR hK51  
  have hN := hN9
  have hc := hc9
  have hE := hE9
  have hR := hR9
  have hK51 := hK519
  clear hM9
  refine V_putF dX8_init_200 fl_RX8_86 rfl rfl rfl (by rw [hN]; decide) hK51 rfl (fun _ => rfl) (fun _ => rfl) ?_
  refine V_memS (fun S97 e_S97 => ?_)
  replace h := h S97 e_S97
  have hN9 : S97.2.1 = 76 := by rw [e_S97]; exact hN
  have hc9 : q_cl S97 := by rw [e_S97]; exact q_cl_put hc (by rw [hN]; decide)
  have hE9 : Ex S S97 := by rw [e_S97]; exact hE.tr (Ex.put _ _)
  have hR9 : q_Rk 51 S S97 := by rw [e_S97]; exact hR.put (Or.inl rfl)
  have hK519 : S97.2.2.1 51 = 8 := by rw [e_S97]; exact hK51
  clear hc hE hR hK51  
  have hN := hN9
  have hc := hc9
  have hE := hE9
  have hR := hR9
  have hK51 := hK519
  refine V_aload_n dX8_init_203 rfl rfl ?_
  refine V_bipush (v := 16) dX8_init_204 (by decide) ?_
  refine V_newI (z := 16) dX8_init_206 ac_int (by decide) (by decide) (by decide) (by rw [hN]; decide) hc (q_vbn hN rfl) (q_vbn hN rfl) (by decide) (by decide) (fun a99 => ?_)
  rw [hN]
  refine V_memS (fun S98 e_S98 => ?_)
  refine V_memI (fun I100 e_I100 => ?_)
  replace h := h a99 S98 e_S98 I100 e_I100
  have hM9 := hN
  have hN9 : S98.2.1 = 77 := by rw [e_S98]; show _ + 1 = 77; rw [hN]
  have hc9 : q_cl S98 := by rw [e_S98]; exact q_cl_new hc _ _ _
  have hE9 : Ex S S98 := by rw [e_S98]; exact hE.tr (Ex.new _ (by rw [hN]; decide) _ _ _)
  have hR9 : q_Rk 51 S S98 := by rw [e_S98]; exact hR.new hE.1 _ _ _
  have hK519 : S98.2.2.1 51 = 8 := by rw [e_S98]; exact (if_neg (by rw [hN]; decide)).trans hK51
  clear hc hE hR hK51  
  have hN := hN9
  have hc := hc9
  have hE := hE9
  have hR := hR9
  have hK51 := hK519
  clear hM9
  refine V_putF dX8_init_208 fl_RX8_89 rfl rfl rfl (by rw [hN]; decide) hK51 rfl (fun _ => rfl) (fun _ => rfl) ?_
  refine V_memS (fun S101 e_S101 => ?_)
  replace h := h S101 e_S101
  have hN9 : S101.2.1 = 77 := by rw [e_S101]; exact hN
  have hc9 : q_cl S101 := by rw [e_S101]; exact q_cl_put hc (by rw [hN]; decide)
  have hE9 : Ex S S101 := by rw [e_S101]; exact hE.tr (Ex.put _ _)
  have hR9 : q_Rk 51 S S101 := by rw [e_S101]; exact hR.put (Or.inl rfl)
  have hK519 : S101.2.2.1 51 = 8 := by rw [e_S101]; exact hK51
  clear hc hE hR hK51  
  have hN := hN9
  have hc := hc9
  have hE := hE9
  have hR := hR9
  have hK51 := hK519
  refine V_aload_n dX8_init_211 rfl rfl ?_
  refine V_bipush (v := 16) dX8_init_212 (by decide) ?_
  refine V_newI (z := 16) dX8_init_214 ac_int (by decide) (by decide) (by decide) (by rw [hN]; decide) hc (q_vbn hN rfl) (q_vbn hN rfl) (by decide) (by decide) (fun a103 => ?_)
  rw [hN]
  refine V_memS (fun S102 e_S102 => ?_)
  refine V_memI (fun I104 e_I104 => ?_)
  replace h := h a103 S102 e_S102 I104 e_I104
  have hM9 := hN
  have hN9 : S102.2.1 = 78 := by rw [e_S102]; show _ + 1 = 78; rw [hN]
  have hc9 : q_cl S102 := by rw [e_S102]; exact q_cl_new hc _ _ _
  have hE9 : Ex S S102 := by rw [e_S102]; exact hE.tr (Ex.new _ (by rw [hN]; decide) _ _ _)
  have hR9 : q_Rk 51 S S102 := by rw [e_S102]; exact hR.new hE.1 _ _ _
  have hK519 : S102.2.2.1 51 = 8 := by rw [e_S102]; exact (if_neg (by rw [hN]; decide)).trans hK51
  clear hc hE hR hK51  
  have hN := hN9
  have hc := hc9
  have hE := hE9
  have hR := hR9
  have hK51 := hK519
  clear hM9
  refine V_putF dX8_init_216 fl_RX8_92 rfl rfl rfl (by rw [hN]; decide) hK51 rfl (fun _ => rfl) (fun _ => rfl) ?_
  refine V_memS (fun S105 e_S105 => ?_)
  replace h := h S105 e_S105
  have hN9 : S105.2.1 = 78 := by rw [e_S105]; exact hN
  have hc9 : q_cl S105 := by rw [e_S105]; exact q_cl_put hc (by rw [hN]; decide)
  have hE9 : Ex S S105 := by rw [e_S105]; exact hE.tr (Ex.put _ _)
  have hR9 : q_Rk 51 S S105 := by rw [e_S105]; exact hR.put (Or.inl rfl)
  have hK519 : S105.2.2.1 51 = 8 := by rw [e_S105]; exact hK51
  clear hc hE hR hK51  
  have hN := hN9
  have hc := hc9
  have hE := hE9
  have hR := hR9
  have hK51 := hK519
  refine V_aload_n dX8_init_219 rfl rfl ?_
  refine V_bipush (v := 10) dX8_init_220 (by decide) ?_
  refine V_newZ (z := 10) dX8_init_222 ac_boolean (by decide) (by decide) (by decide) (by rw [hN]; decide) hc (q_vbn hN rfl) (q_vbn hN rfl) (by decide) (by decide) (fun a107 => ?_)
  rw [hN]
  refine V_memS (fun S106 e_S106 => ?_)
  refine V_memI (fun I108 e_I108 => ?_)
  replace h := h a107 S106 e_S106 I108 e_I108
  have hM9 := hN
  have hN9 : S106.2.1 = 79 := by rw [e_S106]; show _ + 1 = 79; rw [hN]
  have hc9 : q_cl S106 := by rw [e_S106]; exact q_cl_new hc _ _ _
  have hE9 : Ex S S106 := by rw [e_S106]; exact hE.tr (Ex.new _ (by rw [hN]; decide) _ _ _)
  have hR9 : q_Rk 51 S S106 := by rw [e_S106]; exact hR.new hE.1 _ _ _
  have hK519 : S106.2.2.1 51 = 8 := by rw [e_S106]; exact (if_neg (by rw [hN]; decide)).trans hK51
  clear hc hE hR hK51  
  have hN := hN9
  have hc := hc9
  have hE := hE9
  have hR := hR9
  have hK51 := hK519
  clear hM9
  refine V_putF dX8_init_224 fl_RX8_95 rfl rfl rfl (by rw [hN]; decide) hK51 rfl (fun _ => rfl) (fun _ => rfl) ?_
  refine V_memS (fun S109 e_S109 => ?_)
  replace h := h S109 e_S109
  have hN9 : S109.2.1 = 79 := by rw [e_S109]; exact hN
  have hc9 : q_cl S109 := by rw [e_S109]; exact q_cl_put hc (by rw [hN]; decide)
  have hE9 : Ex S S109 := by rw [e_S109]; exact hE.tr (Ex.put _ _)
  have hR9 : q_Rk 51 S S109 := by rw [e_S109]; exact hR.put (Or.inl rfl)
  have hK519 : S109.2.2.1 51 = 8 := by rw [e_S109]; exact hK51
  clear hc hE hR hK51  
  have hN := hN9
  have hc := hc9
  have hE := hE9
  have hR := hR9
  have hK51 := hK519
  exact V_vret dX8_init_227 rfl (by decide) (by decide) ⟨rfl, hE, hc, by rw [hN, hN0], hR, h⟩
