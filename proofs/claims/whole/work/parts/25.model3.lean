def wX8_giveJoin_45 (a1 : Int32) (K196 : Int32 → Int32 → Int32 → Int32 → Int32 → Int32 → QI → Prop) (post : QI → Prop) : Nat → Int32 → Int32 → Int32 → Int32 → Int32 → Int32 → Int32 → QI → Prop
  | 0, _, _, _, _, _, _, _, _ => False
  | n + 1, x2, x3, x4, x5, x6, x7, x8, I => (vp_in x3 24 ∧ (((I 64 (x3).toNatClampNeg) ≤ x8 → (K196 x2 x3 x4 x5 x6 x7 I)) ∧ (¬ (I 64 (x3).toNatClampNeg) ≤ x8 → (vp_in a1 24 ∧ (wX8_cellOf x2 x5 (I 58 (a1).toNatClampNeg) I (fun r4 => (vp_in a1 24 ∧ (wX8_cellOf x3 x8 (I 59 (a1).toNatClampNeg) I (fun r5 => (wX8_isTrue r4 0 r5 I (fun r6 => ((r6 = 0 → (∀ v7 : Int32, v7 = (x6 + 0) → (vp_in a1 24 ∧ (wX8_cellOf x2 x5 (I 58 (a1).toNatClampNeg) I (fun r8 => (vp_in a1 24 ∧ (wX8_cellOf x3 x8 (I 59 (a1).toNatClampNeg) I (fun r9 => (wX8_isTrue r8 1 r9 I (fun r10 => ((r10 = 0 → (∀ v11 : Int32, v11 = (x7 + 0) → ((r6 = 0 → (∀ v12 : Int32, v12 = (x8 + 1) → (wX8_giveJoin_45 a1 K196 post n x2 x3 x4 x5 v7 v11 v12 I))) ∧ (¬ r6 = 0 → ((2 ≤ x4 → (∀ v13 : Int32, v13 = (x8 + 1) → (wX8_giveJoin_45 a1 K196 post n x2 x3 x4 x5 v7 v11 v13 I))) ∧ (¬ 2 ≤ x4 → (wX8_copyRow a1 x2 x5 0 I (fun I14 => (vp_in x2 24 ∧ (wX8_copyRow a1 x3 x8 (I14 61 (x2).toNatClampNeg) I14 (fun I15 => (vp_in a1 24 ∧ (vp_in a1 24 ∧ (∀ I16 : QI, I16 = q_u2 I15 64 (a1).toNatClampNeg ((I15 64 (a1).toNatClampNeg) + 1) → (∀ v17 : Int32, v17 = (x8 + 1) → (wX8_giveJoin_45 a1 K196 post n x2 x3 x4 x5 v7 v11 v17 I16)))))))))))))))) ∧ (¬ r10 = 0 → (∀ v18 : Int32, v18 = (x7 + 1) → ((r6 = 0 → (∀ v19 : Int32, v19 = (x8 + 1) → (wX8_giveJoin_45 a1 K196 post n x2 x3 x4 x5 v7 v18 v19 I))) ∧ (¬ r6 = 0 → ((2 ≤ x4 → (∀ v20 : Int32, v20 = (x8 + 1) → (wX8_giveJoin_45 a1 K196 post n x2 x3 x4 x5 v7 v18 v20 I))) ∧ (¬ 2 ≤ x4 → (wX8_copyRow a1 x2 x5 0 I (fun I21 => (vp_in x2 24 ∧ (wX8_copyRow a1 x3 x8 (I21 61 (x2).toNatClampNeg) I21 (fun I22 => (vp_in a1 24 ∧ (vp_in a1 24 ∧ (∀ I23 : QI, I23 = q_u2 I22 64 (a1).toNatClampNeg ((I22 64 (a1).toNatClampNeg) + 1) → (∀ v24 : Int32, v24 = (x8 + 1) → (wX8_giveJoin_45 a1 K196 post n x2 x3 x4 x5 v7 v18 v24 I23))))))))))))))))))))))))))) ∧ (¬ r6 = 0 → (∀ v25 : Int32, v25 = (x6 + 1) → (vp_in a1 24 ∧ (wX8_cellOf x2 x5 (I 58 (a1).toNatClampNeg) I (fun r26 => (vp_in a1 24 ∧ (wX8_cellOf x3 x8 (I 59 (a1).toNatClampNeg) I (fun r27 => (wX8_isTrue r26 1 r27 I (fun r28 => ((r28 = 0 → (∀ v29 : Int32, v29 = (x7 + 0) → ((r6 = 0 → (∀ v30 : Int32, v30 = (x8 + 1) → (wX8_giveJoin_45 a1 K196 post n x2 x3 x4 x5 v25 v29 v30 I))) ∧ (¬ r6 = 0 → ((2 ≤ x4 → (∀ v31 : Int32, v31 = (x8 + 1) → (wX8_giveJoin_45 a1 K196 post n x2 x3 x4 x5 v25 v29 v31 I))) ∧ (¬ 2 ≤ x4 → (wX8_copyRow a1 x2 x5 0 I (fun I32 => (vp_in x2 24 ∧ (wX8_copyRow a1 x3 x8 (I32 61 (x2).toNatClampNeg) I32 (fun I33 => (vp_in a1 24 ∧ (vp_in a1 24 ∧ (∀ I34 : QI, I34 = q_u2 I33 64 (a1).toNatClampNeg ((I33 64 (a1).toNatClampNeg) + 1) → (∀ v35 : Int32, v35 = (x8 + 1) → (wX8_giveJoin_45 a1 K196 post n x2 x3 x4 x5 v25 v29 v35 I34)))))))))))))))) ∧ (¬ r28 = 0 → (∀ v36 : Int32, v36 = (x7 + 1) → ((r6 = 0 → (∀ v37 : Int32, v37 = (x8 + 1) → (wX8_giveJoin_45 a1 K196 post n x2 x3 x4 x5 v25 v36 v37 I))) ∧ (¬ r6 = 0 → ((2 ≤ x4 → (∀ v38 : Int32, v38 = (x8 + 1) → (wX8_giveJoin_45 a1 K196 post n x2 x3 x4 x5 v25 v36 v38 I))) ∧ (¬ 2 ≤ x4 → (wX8_copyRow a1 x2 x5 0 I (fun I39 => (vp_in x2 24 ∧ (wX8_copyRow a1 x3 x8 (I39 61 (x2).toNatClampNeg) I39 (fun I40 => (vp_in a1 24 ∧ (vp_in a1 24 ∧ (∀ I41 : QI, I41 = q_u2 I40 64 (a1).toNatClampNeg ((I40 64 (a1).toNatClampNeg) + 1) → (∀ v42 : Int32, v42 = (x8 + 1) → (wX8_giveJoin_45 a1 K196 post n x2 x3 x4 x5 v25 v36 v42 I41)))))))))))))))))))))))))))))))))))))))
set_option maxRecDepth 100000 in
set_option maxHeartbeats 4000000 in
theorem swX8_giveJoin_45 {X : QX} {S : QS} {a1 : Int32} {J : QJ} {K196 : Int32 → Int32 → Int32 → Int32 → Int32 → Int32 → QI → Prop} {post : QI → Prop} (hS : Sh S) (hK196 : ∀ (z2 : Int32) (z3 : Int32) (z4 : Int32) (z5 : Int32) (z6 : Int32) (z7 : Int32) (I : QI), K196 z2 z3 z4 z5 z6 z7 I → V X mX8_giveJoin 2 0 0 (q_Pv S (fun I2 J2 => J = J2 ∧ post I2)) 196 [(0, .ref 51), (1, .int a1), (2, .int z2), (3, .int z3), (4, .int z4), (5, .int z5), (6, .int z6), (7, .int z7)] [] S I J 0 0) : ∀ (f : Nat) (x2 : Int32) (x3 : Int32) (x4 : Int32) (x5 : Int32) (x6 : Int32) (x7 : Int32) (x8 : Int32) (I : QI), wX8_giveJoin_45 a1 K196 post f x2 x3 x4 x5 x6 x7 x8 I → V X mX8_giveJoin 2 0 0 (q_Pv S (fun I2 J2 => J = J2 ∧ post I2)) 45 [(0, .ref 51), (1, .int a1), (2, .int x2), (3, .int x3), (4, .int x4), (5, .int x5), (6, .int x6), (7, .int x7), (8, .int x8)] [] S I J 0 0 := by
  intro f
  induction f with
  | zero => intro x2 x3 x4 x5 x6 x7 x8 I h; exact h.elim
  | succ n ih =>
    intro x2 x3 x4 x5 x6 x7 x8 I h
    replace h : (vp_in x3 24 ∧ (((I 64 (x3).toNatClampNeg) ≤ x8 → (K196 x2 x3 x4 x5 x6 x7 I)) ∧ (¬ (I 64 (x3).toNatClampNeg) ≤ x8 → (vp_in a1 24 ∧ (wX8_cellOf x2 x5 (I 58 (a1).toNatClampNeg) I (fun r4 => (vp_in a1 24 ∧ (wX8_cellOf x3 x8 (I 59 (a1).toNatClampNeg) I (fun r5 => (wX8_isTrue r4 0 r5 I (fun r6 => ((r6 = 0 → (∀ v7 : Int32, v7 = (x6 + 0) → (vp_in a1 24 ∧ (wX8_cellOf x2 x5 (I 58 (a1).toNatClampNeg) I (fun r8 => (vp_in a1 24 ∧ (wX8_cellOf x3 x8 (I 59 (a1).toNatClampNeg) I (fun r9 => (wX8_isTrue r8 1 r9 I (fun r10 => ((r10 = 0 → (∀ v11 : Int32, v11 = (x7 + 0) → ((r6 = 0 → (∀ v12 : Int32, v12 = (x8 + 1) → (wX8_giveJoin_45 a1 K196 post n x2 x3 x4 x5 v7 v11 v12 I))) ∧ (¬ r6 = 0 → ((2 ≤ x4 → (∀ v13 : Int32, v13 = (x8 + 1) → (wX8_giveJoin_45 a1 K196 post n x2 x3 x4 x5 v7 v11 v13 I))) ∧ (¬ 2 ≤ x4 → (wX8_copyRow a1 x2 x5 0 I (fun I14 => (vp_in x2 24 ∧ (wX8_copyRow a1 x3 x8 (I14 61 (x2).toNatClampNeg) I14 (fun I15 => (vp_in a1 24 ∧ (vp_in a1 24 ∧ (∀ I16 : QI, I16 = q_u2 I15 64 (a1).toNatClampNeg ((I15 64 (a1).toNatClampNeg) + 1) → (∀ v17 : Int32, v17 = (x8 + 1) → (wX8_giveJoin_45 a1 K196 post n x2 x3 x4 x5 v7 v11 v17 I16)))))))))))))))) ∧ (¬ r10 = 0 → (∀ v18 : Int32, v18 = (x7 + 1) → ((r6 = 0 → (∀ v19 : Int32, v19 = (x8 + 1) → (wX8_giveJoin_45 a1 K196 post n x2 x3 x4 x5 v7 v18 v19 I))) ∧ (¬ r6 = 0 → ((2 ≤ x4 → (∀ v20 : Int32, v20 = (x8 + 1) → (wX8_giveJoin_45 a1 K196 post n x2 x3 x4 x5 v7 v18 v20 I))) ∧ (¬ 2 ≤ x4 → (wX8_copyRow a1 x2 x5 0 I (fun I21 => (vp_in x2 24 ∧ (wX8_copyRow a1 x3 x8 (I21 61 (x2).toNatClampNeg) I21 (fun I22 => (vp_in a1 24 ∧ (vp_in a1 24 ∧ (∀ I23 : QI, I23 = q_u2 I22 64 (a1).toNatClampNeg ((I22 64 (a1).toNatClampNeg) + 1) → (∀ v24 : Int32, v24 = (x8 + 1) → (wX8_giveJoin_45 a1 K196 post n x2 x3 x4 x5 v7 v18 v24 I23))))))))))))))))))))))))))) ∧ (¬ r6 = 0 → (∀ v25 : Int32, v25 = (x6 + 1) → (vp_in a1 24 ∧ (wX8_cellOf x2 x5 (I 58 (a1).toNatClampNeg) I (fun r26 => (vp_in a1 24 ∧ (wX8_cellOf x3 x8 (I 59 (a1).toNatClampNeg) I (fun r27 => (wX8_isTrue r26 1 r27 I (fun r28 => ((r28 = 0 → (∀ v29 : Int32, v29 = (x7 + 0) → ((r6 = 0 → (∀ v30 : Int32, v30 = (x8 + 1) → (wX8_giveJoin_45 a1 K196 post n x2 x3 x4 x5 v25 v29 v30 I))) ∧ (¬ r6 = 0 → ((2 ≤ x4 → (∀ v31 : Int32, v31 = (x8 + 1) → (wX8_giveJoin_45 a1 K196 post n x2 x3 x4 x5 v25 v29 v31 I))) ∧ (¬ 2 ≤ x4 → (wX8_copyRow a1 x2 x5 0 I (fun I32 => (vp_in x2 24 ∧ (wX8_copyRow a1 x3 x8 (I32 61 (x2).toNatClampNeg) I32 (fun I33 => (vp_in a1 24 ∧ (vp_in a1 24 ∧ (∀ I34 : QI, I34 = q_u2 I33 64 (a1).toNatClampNeg ((I33 64 (a1).toNatClampNeg) + 1) → (∀ v35 : Int32, v35 = (x8 + 1) → (wX8_giveJoin_45 a1 K196 post n x2 x3 x4 x5 v25 v29 v35 I34)))))))))))))))) ∧ (¬ r28 = 0 → (∀ v36 : Int32, v36 = (x7 + 1) → ((r6 = 0 → (∀ v37 : Int32, v37 = (x8 + 1) → (wX8_giveJoin_45 a1 K196 post n x2 x3 x4 x5 v25 v36 v37 I))) ∧ (¬ r6 = 0 → ((2 ≤ x4 → (∀ v38 : Int32, v38 = (x8 + 1) → (wX8_giveJoin_45 a1 K196 post n x2 x3 x4 x5 v25 v36 v38 I))) ∧ (¬ 2 ≤ x4 → (wX8_copyRow a1 x2 x5 0 I (fun I39 => (vp_in x2 24 ∧ (wX8_copyRow a1 x3 x8 (I39 61 (x2).toNatClampNeg) I39 (fun I40 => (vp_in a1 24 ∧ (vp_in a1 24 ∧ (∀ I41 : QI, I41 = q_u2 I40 64 (a1).toNatClampNeg ((I40 64 (a1).toNatClampNeg) + 1) → (∀ v42 : Int32, v42 = (x8 + 1) → (wX8_giveJoin_45 a1 K196 post n x2 x3 x4 x5 v25 v36 v42 I41))))))))))))))))))))))))))))))))))))))) := h
    refine V_iload dX8_giveJoin_45 rfl ?_
    refine V_aload_n dX8_giveJoin_47 rfl rfl ?_
    refine V_getr dX8_giveJoin_48 fl_RX8_51 (hS.n 51 rfl) (hS.k 51 8 rfl) rfl (hS.r 51 18 64 rfl) ?_
    refine V_iload_n dX8_giveJoin_51 rfl rfl ?_
    obtain ⟨hb, h⟩ := h
    refine V_iald dX8_giveJoin_52 (hS.n 64 rfl) (hS.k 64 9 rfl) (by rw [(hS.z 64 24 rfl)]; exact hb) ?_
    refine V_icmp_ge 196 dX8_giveJoin_53 rfl (fun hc => ?_) (fun hc => ?_)
    · replace h := h.1 hc
      refine V_sub (lo2 := [(0, .ref 51), (1, .int a1), (2, .int x2), (3, .int x3), (4, .int x4), (5, .int x5), (6, .int x6), (7, .int x7)]) [0, 1, 2, 3, 4, 5, 6, 7] rfl ?_
      exact hK196 _ _ _ _ _ _ _ h
    · replace h := h.2 hc
      refine V_aload_n dX8_giveJoin_56 rfl rfl ?_
      refine V_iload_n dX8_giveJoin_57 rfl rfl ?_
      refine V_iload dX8_giveJoin_58 rfl ?_
      refine V_aload_n dX8_giveJoin_60 rfl rfl ?_
      refine V_getr dX8_giveJoin_61 fl_RX8_28 (hS.n 51 rfl) (hS.k 51 8 rfl) rfl (hS.r 51 9 58 rfl) ?_
      refine V_iload_n dX8_giveJoin_64 rfl rfl ?_
      obtain ⟨hb, h⟩ := h
      refine V_iald dX8_giveJoin_65 (hS.n 58 rfl) (hS.k 58 9 rfl) (by rw [(hS.z 58 24 rfl)]; exact hb) ?_
      refine V_callVi (st := []) [.int x2, .int x5, .int (I 58 (a1).toNatClampNeg)] dX8_giveJoin_66 ok_mX8_cellOf rfl ml_RX8_144 in_mX8_cellOf se_mX8_cellOf (hS.n 51 rfl) (hS.k 51 8 rfl) (by decide) rfl (Nat.le_of_ble_eq_true rfl) (by decide) (by decide) (by decide) (s_mX8_cellOf hS h) (fun r4 I9 J9 h => ?_)
      obtain ⟨rfl, rfl, h⟩ := h
      refine V_iconst (v := 0) dX8_giveJoin_69 (by decide) ?_
      refine V_aload_n dX8_giveJoin_70 rfl rfl ?_
      refine V_iload_n dX8_giveJoin_71 rfl rfl ?_
      refine V_iload dX8_giveJoin_72 rfl ?_
      refine V_aload_n dX8_giveJoin_74 rfl rfl ?_
      refine V_getr dX8_giveJoin_75 fl_RX8_31 (hS.n 51 rfl) (hS.k 51 8 rfl) rfl (hS.r 51 10 59 rfl) ?_
      refine V_iload_n dX8_giveJoin_78 rfl rfl ?_
      obtain ⟨hb, h⟩ := h
      refine V_iald dX8_giveJoin_79 (hS.n 59 rfl) (hS.k 59 9 rfl) (by rw [(hS.z 59 24 rfl)]; exact hb) ?_
      refine V_callVi (st := [.int 0, .int r4]) [.int x3, .int x8, .int (I 59 (a1).toNatClampNeg)] dX8_giveJoin_80 ok_mX8_cellOf rfl ml_RX8_144 in_mX8_cellOf se_mX8_cellOf (hS.n 51 rfl) (hS.k 51 8 rfl) (by decide) rfl (Nat.le_of_ble_eq_true rfl) (by decide) (by decide) (by decide) (s_mX8_cellOf hS h) (fun r5 I9 J9 h => ?_)
      obtain ⟨rfl, rfl, h⟩ := h
      refine V_callSi (st := []) [.int r4, .int 0, .int r5] dX8_giveJoin_83 ok_mX8_isTrue rfl ml_RX8_155 st_mX8_isTrue (Nat.le_of_ble_eq_true rfl) (by decide) (by decide) (by decide) (s_mX8_isTrue hS h) (fun r6 I9 J9 h => ?_)
      obtain ⟨rfl, rfl, h⟩ := h
      refine V_istore (lo2 := [(9, .int r6), (0, .ref 51), (1, .int a1), (2, .int x2), (3, .int x3), (4, .int x4), (5, .int x5), (6, .int x6), (7, .int x7), (8, .int x8)]) dX8_giveJoin_86 (by decide) rfl ?_
      refine V_iload dX8_giveJoin_88 rfl ?_
      refine V_iload dX8_giveJoin_90 rfl ?_
      refine V_if_eq 99 dX8_giveJoin_92 rfl (fun hc => ?_) (fun hc => ?_)
      · replace h := h.1 hc
        refine V_iconst (v := 0) dX8_giveJoin_99 (by decide) ?_
        refine V_iadd dX8_giveJoin_100 ?_
        refine V_topi (fun v7 e_v7 => ?_)
        replace h := h v7 e_v7
        refine V_istore (lo2 := [(6, .int v7), (9, .int r6), (0, .ref 51), (1, .int a1), (2, .int x2), (3, .int x3), (4, .int x4), (5, .int x5), (7, .int x7), (8, .int x8)]) dX8_giveJoin_101 (by decide) rfl ?_
        refine V_iload dX8_giveJoin_103 rfl ?_
        refine V_aload_n dX8_giveJoin_105 rfl rfl ?_
        refine V_iload_n dX8_giveJoin_106 rfl rfl ?_
        refine V_iload dX8_giveJoin_107 rfl ?_
        refine V_aload_n dX8_giveJoin_109 rfl rfl ?_
        refine V_getr dX8_giveJoin_110 fl_RX8_28 (hS.n 51 rfl) (hS.k 51 8 rfl) rfl (hS.r 51 9 58 rfl) ?_
        refine V_iload_n dX8_giveJoin_113 rfl rfl ?_
        obtain ⟨hb, h⟩ := h
        refine V_iald dX8_giveJoin_114 (hS.n 58 rfl) (hS.k 58 9 rfl) (by rw [(hS.z 58 24 rfl)]; exact hb) ?_
        refine V_callVi (st := [.int x7]) [.int x2, .int x5, .int (I 58 (a1).toNatClampNeg)] dX8_giveJoin_115 ok_mX8_cellOf rfl ml_RX8_144 in_mX8_cellOf se_mX8_cellOf (hS.n 51 rfl) (hS.k 51 8 rfl) (by decide) rfl (Nat.le_of_ble_eq_true rfl) (by decide) (by decide) (by decide) (s_mX8_cellOf hS h) (fun r8 I9 J9 h => ?_)
        obtain ⟨rfl, rfl, h⟩ := h
        refine V_iconst (v := 1) dX8_giveJoin_118 (by decide) ?_
        refine V_aload_n dX8_giveJoin_119 rfl rfl ?_
        refine V_iload_n dX8_giveJoin_120 rfl rfl ?_
        refine V_iload dX8_giveJoin_121 rfl ?_
        refine V_aload_n dX8_giveJoin_123 rfl rfl ?_
        refine V_getr dX8_giveJoin_124 fl_RX8_31 (hS.n 51 rfl) (hS.k 51 8 rfl) rfl (hS.r 51 10 59 rfl) ?_
        refine V_iload_n dX8_giveJoin_127 rfl rfl ?_
        obtain ⟨hb, h⟩ := h
        refine V_iald dX8_giveJoin_128 (hS.n 59 rfl) (hS.k 59 9 rfl) (by rw [(hS.z 59 24 rfl)]; exact hb) ?_
        refine V_callVi (st := [.int 1, .int r8, .int x7]) [.int x3, .int x8, .int (I 59 (a1).toNatClampNeg)] dX8_giveJoin_129 ok_mX8_cellOf rfl ml_RX8_144 in_mX8_cellOf se_mX8_cellOf (hS.n 51 rfl) (hS.k 51 8 rfl) (by decide) rfl (Nat.le_of_ble_eq_true rfl) (by decide) (by decide) (by decide) (s_mX8_cellOf hS h) (fun r9 I9 J9 h => ?_)
        obtain ⟨rfl, rfl, h⟩ := h
        refine V_callSi (st := [.int x7]) [.int r8, .int 1, .int r9] dX8_giveJoin_132 ok_mX8_isTrue rfl ml_RX8_155 st_mX8_isTrue (Nat.le_of_ble_eq_true rfl) (by decide) (by decide) (by decide) (s_mX8_isTrue hS h) (fun r10 I9 J9 h => ?_)
        obtain ⟨rfl, rfl, h⟩ := h
        refine V_if_eq 142 dX8_giveJoin_135 rfl (fun hc => ?_) (fun hc => ?_)
        · replace h := h.1 hc
          refine V_iconst (v := 0) dX8_giveJoin_142 (by decide) ?_
          refine V_iadd dX8_giveJoin_143 ?_
          refine V_topi (fun v11 e_v11 => ?_)
          replace h := h v11 e_v11
          refine V_istore (lo2 := [(7, .int v11), (6, .int v7), (9, .int r6), (0, .ref 51), (1, .int a1), (2, .int x2), (3, .int x3), (4, .int x4), (5, .int x5), (8, .int x8)]) dX8_giveJoin_144 (by decide) rfl ?_
          refine V_iload dX8_giveJoin_146 rfl ?_
          refine V_if_eq 190 dX8_giveJoin_148 rfl (fun hc => ?_) (fun hc => ?_)
          · replace h := h.1 hc
            obtain ⟨v12, e_v12⟩ : ∃ z : Int32, z = (x8 + 1) := ⟨_, rfl⟩
            replace h := h v12 e_v12
            refine V_iinc (lo2 := [(8, .int v12), (7, .int v11), (6, .int v7), (9, .int r6), (0, .ref 51), (1, .int a1), (2, .int x2), (3, .int x3), (4, .int x4), (5, .int x5)]) 9 dX8_giveJoin_190 rfl (v := v12) (by rw [e_v12]; first | done | rfl) (by decide) rfl ?_
            refine V_goto 45 dX8_giveJoin_193 rfl ?_
            refine V_sub (lo2 := [(0, .ref 51), (1, .int a1), (2, .int x2), (3, .int x3), (4, .int x4), (5, .int x5), (6, .int v7), (7, .int v11), (8, .int v12)]) [4, 5, 6, 7, 8, 9, 2, 1, 0] rfl ?_
            exact ih _ _ _ _ _ _ _ _ h
          · replace h := h.2 hc
            refine V_iload dX8_giveJoin_151 rfl ?_
            refine V_iconst (v := 2) dX8_giveJoin_153 (by decide) ?_
            refine V_icmp_ge 190 dX8_giveJoin_154 rfl (fun hc => ?_) (fun hc => ?_)
            · replace h := h.1 hc
              obtain ⟨v13, e_v13⟩ : ∃ z : Int32, z = (x8 + 1) := ⟨_, rfl⟩
              replace h := h v13 e_v13
              refine V_iinc (lo2 := [(8, .int v13), (7, .int v11), (6, .int v7), (9, .int r6), (0, .ref 51), (1, .int a1), (2, .int x2), (3, .int x3), (4, .int x4), (5, .int x5)]) 9 dX8_giveJoin_190 rfl (v := v13) (by rw [e_v13]; first | done | rfl) (by decide) rfl ?_
              refine V_goto 45 dX8_giveJoin_193 rfl ?_
              refine V_sub (lo2 := [(0, .ref 51), (1, .int a1), (2, .int x2), (3, .int x3), (4, .int x4), (5, .int x5), (6, .int v7), (7, .int v11), (8, .int v13)]) [4, 5, 6, 7, 8, 9, 2, 1, 0] rfl ?_
              exact ih _ _ _ _ _ _ _ _ h
            · replace h := h.2 hc
              refine V_aload_n dX8_giveJoin_157 rfl rfl ?_
              refine V_iload_n dX8_giveJoin_158 rfl rfl ?_
              refine V_iload_n dX8_giveJoin_159 rfl rfl ?_
              refine V_iload dX8_giveJoin_160 rfl ?_
              refine V_iconst (v := 0) dX8_giveJoin_162 (by decide) ?_
              refine V_callVv (st := []) [.int a1, .int x2, .int x5, .int 0] dX8_giveJoin_163 ok_mX8_copyRow rfl ml_RX8_158 in_mX8_copyRow se_mX8_copyRow (hS.n 51 rfl) (hS.k 51 8 rfl) (by decide) rfl (Nat.le_of_ble_eq_true rfl) (by decide) (by decide) (by decide) (s_mX8_copyRow hS h) (fun I14 J9 h => ?_)
              obtain ⟨rfl, h⟩ := h
              refine V_aload_n dX8_giveJoin_166 rfl rfl ?_
              refine V_iload_n dX8_giveJoin_167 rfl rfl ?_
              refine V_iload_n dX8_giveJoin_168 rfl rfl ?_
              refine V_iload dX8_giveJoin_169 rfl ?_
              refine V_aload_n dX8_giveJoin_171 rfl rfl ?_
              refine V_getr dX8_giveJoin_172 fl_RX8_37 (hS.n 51 rfl) (hS.k 51 8 rfl) rfl (hS.r 51 12 61 rfl) ?_
              refine V_iload_n dX8_giveJoin_175 rfl rfl ?_
              obtain ⟨hb, h⟩ := h
              refine V_iald dX8_giveJoin_176 (hS.n 61 rfl) (hS.k 61 9 rfl) (by rw [(hS.z 61 24 rfl)]; exact hb) ?_
              refine V_callVv (st := []) [.int a1, .int x3, .int x8, .int (I14 61 (x2).toNatClampNeg)] dX8_giveJoin_177 ok_mX8_copyRow rfl ml_RX8_158 in_mX8_copyRow se_mX8_copyRow (hS.n 51 rfl) (hS.k 51 8 rfl) (by decide) rfl (Nat.le_of_ble_eq_true rfl) (by decide) (by decide) (by decide) (s_mX8_copyRow hS h) (fun I15 J9 h => ?_)
              obtain ⟨rfl, h⟩ := h
              refine V_aload_n dX8_giveJoin_180 rfl rfl ?_
              refine V_getr dX8_giveJoin_181 fl_RX8_51 (hS.n 51 rfl) (hS.k 51 8 rfl) rfl (hS.r 51 18 64 rfl) ?_
              refine V_iload_n dX8_giveJoin_184 rfl rfl ?_
              refine V_dup2 dX8_giveJoin_185 rfl rfl ?_
              obtain ⟨hb, h⟩ := h
              refine V_iald dX8_giveJoin_186 (hS.n 64 rfl) (hS.k 64 9 rfl) (by rw [(hS.z 64 24 rfl)]; exact hb) ?_
              refine V_iconst (v := 1) dX8_giveJoin_187 (by decide) ?_
              refine V_iadd dX8_giveJoin_188 ?_
              obtain ⟨hb, h⟩ := h
              refine V_iast dX8_giveJoin_189 (hS.n 64 rfl) (hS.k 64 9 rfl) (by rw [(hS.z 64 24 rfl)]; exact hb) ?_
              refine V_memI (fun I16 e_I16 => ?_)
              replace h := h I16 e_I16
              obtain ⟨v17, e_v17⟩ : ∃ z : Int32, z = (x8 + 1) := ⟨_, rfl⟩
              replace h := h v17 e_v17
              refine V_iinc (lo2 := [(8, .int v17), (7, .int v11), (6, .int v7), (9, .int r6), (0, .ref 51), (1, .int a1), (2, .int x2), (3, .int x3), (4, .int x4), (5, .int x5)]) 9 dX8_giveJoin_190 rfl (v := v17) (by rw [e_v17]; first | done | rfl) (by decide) rfl ?_
              refine V_goto 45 dX8_giveJoin_193 rfl ?_
              refine V_sub (lo2 := [(0, .ref 51), (1, .int a1), (2, .int x2), (3, .int x3), (4, .int x4), (5, .int x5), (6, .int v7), (7, .int v11), (8, .int v17)]) [4, 5, 6, 7, 8, 9, 2, 1, 0] rfl ?_
              exact ih _ _ _ _ _ _ _ _ h
        · replace h := h.2 hc
          refine V_iconst (v := 1) dX8_giveJoin_138 (by decide) ?_
          refine V_goto 143 dX8_giveJoin_139 rfl ?_
          refine V_iadd dX8_giveJoin_143 ?_
          refine V_topi (fun v18 e_v18 => ?_)
          replace h := h v18 e_v18
          refine V_istore (lo2 := [(7, .int v18), (6, .int v7), (9, .int r6), (0, .ref 51), (1, .int a1), (2, .int x2), (3, .int x3), (4, .int x4), (5, .int x5), (8, .int x8)]) dX8_giveJoin_144 (by decide) rfl ?_
          refine V_iload dX8_giveJoin_146 rfl ?_
          refine V_if_eq 190 dX8_giveJoin_148 rfl (fun hc => ?_) (fun hc => ?_)
          · replace h := h.1 hc
            obtain ⟨v19, e_v19⟩ : ∃ z : Int32, z = (x8 + 1) := ⟨_, rfl⟩
            replace h := h v19 e_v19
            refine V_iinc (lo2 := [(8, .int v19), (7, .int v18), (6, .int v7), (9, .int r6), (0, .ref 51), (1, .int a1), (2, .int x2), (3, .int x3), (4, .int x4), (5, .int x5)]) 9 dX8_giveJoin_190 rfl (v := v19) (by rw [e_v19]; first | done | rfl) (by decide) rfl ?_
            refine V_goto 45 dX8_giveJoin_193 rfl ?_
            refine V_sub (lo2 := [(0, .ref 51), (1, .int a1), (2, .int x2), (3, .int x3), (4, .int x4), (5, .int x5), (6, .int v7), (7, .int v18), (8, .int v19)]) [4, 5, 6, 7, 8, 9, 2, 1, 0] rfl ?_
            exact ih _ _ _ _ _ _ _ _ h
          · replace h := h.2 hc
            refine V_iload dX8_giveJoin_151 rfl ?_
            refine V_iconst (v := 2) dX8_giveJoin_153 (by decide) ?_
            refine V_icmp_ge 190 dX8_giveJoin_154 rfl (fun hc => ?_) (fun hc => ?_)
            · replace h := h.1 hc
              obtain ⟨v20, e_v20⟩ : ∃ z : Int32, z = (x8 + 1) := ⟨_, rfl⟩
              replace h := h v20 e_v20
              refine V_iinc (lo2 := [(8, .int v20), (7, .int v18), (6, .int v7), (9, .int r6), (0, .ref 51), (1, .int a1), (2, .int x2), (3, .int x3), (4, .int x4), (5, .int x5)]) 9 dX8_giveJoin_190 rfl (v := v20) (by rw [e_v20]; first | done | rfl) (by decide) rfl ?_
              refine V_goto 45 dX8_giveJoin_193 rfl ?_
              refine V_sub (lo2 := [(0, .ref 51), (1, .int a1), (2, .int x2), (3, .int x3), (4, .int x4), (5, .int x5), (6, .int v7), (7, .int v18), (8, .int v20)]) [4, 5, 6, 7, 8, 9, 2, 1, 0] rfl ?_
              exact ih _ _ _ _ _ _ _ _ h
            · replace h := h.2 hc
              refine V_aload_n dX8_giveJoin_157 rfl rfl ?_
              refine V_iload_n dX8_giveJoin_158 rfl rfl ?_
              refine V_iload_n dX8_giveJoin_159 rfl rfl ?_
              refine V_iload dX8_giveJoin_160 rfl ?_
              refine V_iconst (v := 0) dX8_giveJoin_162 (by decide) ?_
              refine V_callVv (st := []) [.int a1, .int x2, .int x5, .int 0] dX8_giveJoin_163 ok_mX8_copyRow rfl ml_RX8_158 in_mX8_copyRow se_mX8_copyRow (hS.n 51 rfl) (hS.k 51 8 rfl) (by decide) rfl (Nat.le_of_ble_eq_true rfl) (by decide) (by decide) (by decide) (s_mX8_copyRow hS h) (fun I21 J9 h => ?_)
              obtain ⟨rfl, h⟩ := h
              refine V_aload_n dX8_giveJoin_166 rfl rfl ?_
              refine V_iload_n dX8_giveJoin_167 rfl rfl ?_
              refine V_iload_n dX8_giveJoin_168 rfl rfl ?_
              refine V_iload dX8_giveJoin_169 rfl ?_
              refine V_aload_n dX8_giveJoin_171 rfl rfl ?_
              refine V_getr dX8_giveJoin_172 fl_RX8_37 (hS.n 51 rfl) (hS.k 51 8 rfl) rfl (hS.r 51 12 61 rfl) ?_
              refine V_iload_n dX8_giveJoin_175 rfl rfl ?_
              obtain ⟨hb, h⟩ := h
              refine V_iald dX8_giveJoin_176 (hS.n 61 rfl) (hS.k 61 9 rfl) (by rw [(hS.z 61 24 rfl)]; exact hb) ?_
              refine V_callVv (st := []) [.int a1, .int x3, .int x8, .int (I21 61 (x2).toNatClampNeg)] dX8_giveJoin_177 ok_mX8_copyRow rfl ml_RX8_158 in_mX8_copyRow se_mX8_copyRow (hS.n 51 rfl) (hS.k 51 8 rfl) (by decide) rfl (Nat.le_of_ble_eq_true rfl) (by decide) (by decide) (by decide) (s_mX8_copyRow hS h) (fun I22 J9 h => ?_)
              obtain ⟨rfl, h⟩ := h
              refine V_aload_n dX8_giveJoin_180 rfl rfl ?_
              refine V_getr dX8_giveJoin_181 fl_RX8_51 (hS.n 51 rfl) (hS.k 51 8 rfl) rfl (hS.r 51 18 64 rfl) ?_
              refine V_iload_n dX8_giveJoin_184 rfl rfl ?_
              refine V_dup2 dX8_giveJoin_185 rfl rfl ?_
              obtain ⟨hb, h⟩ := h
              refine V_iald dX8_giveJoin_186 (hS.n 64 rfl) (hS.k 64 9 rfl) (by rw [(hS.z 64 24 rfl)]; exact hb) ?_
              refine V_iconst (v := 1) dX8_giveJoin_187 (by decide) ?_
              refine V_iadd dX8_giveJoin_188 ?_
              obtain ⟨hb, h⟩ := h
              refine V_iast dX8_giveJoin_189 (hS.n 64 rfl) (hS.k 64 9 rfl) (by rw [(hS.z 64 24 rfl)]; exact hb) ?_
              refine V_memI (fun I23 e_I23 => ?_)
              replace h := h I23 e_I23
              obtain ⟨v24, e_v24⟩ : ∃ z : Int32, z = (x8 + 1) := ⟨_, rfl⟩
              replace h := h v24 e_v24
              refine V_iinc (lo2 := [(8, .int v24), (7, .int v18), (6, .int v7), (9, .int r6), (0, .ref 51), (1, .int a1), (2, .int x2), (3, .int x3), (4, .int x4), (5, .int x5)]) 9 dX8_giveJoin_190 rfl (v := v24) (by rw [e_v24]; first | done | rfl) (by decide) rfl ?_
              refine V_goto 45 dX8_giveJoin_193 rfl ?_
              refine V_sub (lo2 := [(0, .ref 51), (1, .int a1), (2, .int x2), (3, .int x3), (4, .int x4), (5, .int x5), (6, .int v7), (7, .int v18), (8, .int v24)]) [4, 5, 6, 7, 8, 9, 2, 1, 0] rfl ?_
              exact ih _ _ _ _ _ _ _ _ h
      · replace h := h.2 hc
        refine V_iconst (v := 1) dX8_giveJoin_95 (by decide) ?_
        refine V_goto 100 dX8_giveJoin_96 rfl ?_
        refine V_iadd dX8_giveJoin_100 ?_
        refine V_topi (fun v25 e_v25 => ?_)
        replace h := h v25 e_v25
        refine V_istore (lo2 := [(6, .int v25), (9, .int r6), (0, .ref 51), (1, .int a1), (2, .int x2), (3, .int x3), (4, .int x4), (5, .int x5), (7, .int x7), (8, .int x8)]) dX8_giveJoin_101 (by decide) rfl ?_
        refine V_iload dX8_giveJoin_103 rfl ?_
        refine V_aload_n dX8_giveJoin_105 rfl rfl ?_
        refine V_iload_n dX8_giveJoin_106 rfl rfl ?_
        refine V_iload dX8_giveJoin_107 rfl ?_
        refine V_aload_n dX8_giveJoin_109 rfl rfl ?_
        refine V_getr dX8_giveJoin_110 fl_RX8_28 (hS.n 51 rfl) (hS.k 51 8 rfl) rfl (hS.r 51 9 58 rfl) ?_
        refine V_iload_n dX8_giveJoin_113 rfl rfl ?_
        obtain ⟨hb, h⟩ := h
        refine V_iald dX8_giveJoin_114 (hS.n 58 rfl) (hS.k 58 9 rfl) (by rw [(hS.z 58 24 rfl)]; exact hb) ?_
        refine V_callVi (st := [.int x7]) [.int x2, .int x5, .int (I 58 (a1).toNatClampNeg)] dX8_giveJoin_115 ok_mX8_cellOf rfl ml_RX8_144 in_mX8_cellOf se_mX8_cellOf (hS.n 51 rfl) (hS.k 51 8 rfl) (by decide) rfl (Nat.le_of_ble_eq_true rfl) (by decide) (by decide) (by decide) (s_mX8_cellOf hS h) (fun r26 I9 J9 h => ?_)
        obtain ⟨rfl, rfl, h⟩ := h
        refine V_iconst (v := 1) dX8_giveJoin_118 (by decide) ?_
        refine V_aload_n dX8_giveJoin_119 rfl rfl ?_
        refine V_iload_n dX8_giveJoin_120 rfl rfl ?_
        refine V_iload dX8_giveJoin_121 rfl ?_
        refine V_aload_n dX8_giveJoin_123 rfl rfl ?_
        refine V_getr dX8_giveJoin_124 fl_RX8_31 (hS.n 51 rfl) (hS.k 51 8 rfl) rfl (hS.r 51 10 59 rfl) ?_
        refine V_iload_n dX8_giveJoin_127 rfl rfl ?_
        obtain ⟨hb, h⟩ := h
        refine V_iald dX8_giveJoin_128 (hS.n 59 rfl) (hS.k 59 9 rfl) (by rw [(hS.z 59 24 rfl)]; exact hb) ?_
        refine V_callVi (st := [.int 1, .int r26, .int x7]) [.int x3, .int x8, .int (I 59 (a1).toNatClampNeg)] dX8_giveJoin_129 ok_mX8_cellOf rfl ml_RX8_144 in_mX8_cellOf se_mX8_cellOf (hS.n 51 rfl) (hS.k 51 8 rfl) (by decide) rfl (Nat.le_of_ble_eq_true rfl) (by decide) (by decide) (by decide) (s_mX8_cellOf hS h) (fun r27 I9 J9 h => ?_)
        obtain ⟨rfl, rfl, h⟩ := h
        refine V_callSi (st := [.int x7]) [.int r26, .int 1, .int r27] dX8_giveJoin_132 ok_mX8_isTrue rfl ml_RX8_155 st_mX8_isTrue (Nat.le_of_ble_eq_true rfl) (by decide) (by decide) (by decide) (s_mX8_isTrue hS h) (fun r28 I9 J9 h => ?_)
        obtain ⟨rfl, rfl, h⟩ := h
        refine V_if_eq 142 dX8_giveJoin_135 rfl (fun hc => ?_) (fun hc => ?_)
        · replace h := h.1 hc
          refine V_iconst (v := 0) dX8_giveJoin_142 (by decide) ?_
          refine V_iadd dX8_giveJoin_143 ?_
          refine V_topi (fun v29 e_v29 => ?_)
          replace h := h v29 e_v29
          refine V_istore (lo2 := [(7, .int v29), (6, .int v25), (9, .int r6), (0, .ref 51), (1, .int a1), (2, .int x2), (3, .int x3), (4, .int x4), (5, .int x5), (8, .int x8)]) dX8_giveJoin_144 (by decide) rfl ?_
          refine V_iload dX8_giveJoin_146 rfl ?_
          refine V_if_eq 190 dX8_giveJoin_148 rfl (fun hc => ?_) (fun hc => ?_)
          · replace h := h.1 hc
            obtain ⟨v30, e_v30⟩ : ∃ z : Int32, z = (x8 + 1) := ⟨_, rfl⟩
            replace h := h v30 e_v30
            refine V_iinc (lo2 := [(8, .int v30), (7, .int v29), (6, .int v25), (9, .int r6), (0, .ref 51), (1, .int a1), (2, .int x2), (3, .int x3), (4, .int x4), (5, .int x5)]) 9 dX8_giveJoin_190 rfl (v := v30) (by rw [e_v30]; first | done | rfl) (by decide) rfl ?_
            refine V_goto 45 dX8_giveJoin_193 rfl ?_
            refine V_sub (lo2 := [(0, .ref 51), (1, .int a1), (2, .int x2), (3, .int x3), (4, .int x4), (5, .int x5), (6, .int v25), (7, .int v29), (8, .int v30)]) [4, 5, 6, 7, 8, 9, 2, 1, 0] rfl ?_
            exact ih _ _ _ _ _ _ _ _ h
          · replace h := h.2 hc
            refine V_iload dX8_giveJoin_151 rfl ?_
            refine V_iconst (v := 2) dX8_giveJoin_153 (by decide) ?_
            refine V_icmp_ge 190 dX8_giveJoin_154 rfl (fun hc => ?_) (fun hc => ?_)
            · replace h := h.1 hc
              obtain ⟨v31, e_v31⟩ : ∃ z : Int32, z = (x8 + 1) := ⟨_, rfl⟩
              replace h := h v31 e_v31
              refine V_iinc (lo2 := [(8, .int v31), (7, .int v29), (6, .int v25), (9, .int r6), (0, .ref 51), (1, .int a1), (2, .int x2), (3, .int x3), (4, .int x4), (5, .int x5)]) 9 dX8_giveJoin_190 rfl (v := v31) (by rw [e_v31]; first | done | rfl) (by decide) rfl ?_
              refine V_goto 45 dX8_giveJoin_193 rfl ?_
              refine V_sub (lo2 := [(0, .ref 51), (1, .int a1), (2, .int x2), (3, .int x3), (4, .int x4), (5, .int x5), (6, .int v25), (7, .int v29), (8, .int v31)]) [4, 5, 6, 7, 8, 9, 2, 1, 0] rfl ?_
              exact ih _ _ _ _ _ _ _ _ h
            · replace h := h.2 hc
              refine V_aload_n dX8_giveJoin_157 rfl rfl ?_
              refine V_iload_n dX8_giveJoin_158 rfl rfl ?_
              refine V_iload_n dX8_giveJoin_159 rfl rfl ?_
              refine V_iload dX8_giveJoin_160 rfl ?_
              refine V_iconst (v := 0) dX8_giveJoin_162 (by decide) ?_
              refine V_callVv (st := []) [.int a1, .int x2, .int x5, .int 0] dX8_giveJoin_163 ok_mX8_copyRow rfl ml_RX8_158 in_mX8_copyRow se_mX8_copyRow (hS.n 51 rfl) (hS.k 51 8 rfl) (by decide) rfl (Nat.le_of_ble_eq_true rfl) (by decide) (by decide) (by decide) (s_mX8_copyRow hS h) (fun I32 J9 h => ?_)
              obtain ⟨rfl, h⟩ := h
              refine V_aload_n dX8_giveJoin_166 rfl rfl ?_
              refine V_iload_n dX8_giveJoin_167 rfl rfl ?_
              refine V_iload_n dX8_giveJoin_168 rfl rfl ?_
              refine V_iload dX8_giveJoin_169 rfl ?_
              refine V_aload_n dX8_giveJoin_171 rfl rfl ?_
              refine V_getr dX8_giveJoin_172 fl_RX8_37 (hS.n 51 rfl) (hS.k 51 8 rfl) rfl (hS.r 51 12 61 rfl) ?_
              refine V_iload_n dX8_giveJoin_175 rfl rfl ?_
              obtain ⟨hb, h⟩ := h
              refine V_iald dX8_giveJoin_176 (hS.n 61 rfl) (hS.k 61 9 rfl) (by rw [(hS.z 61 24 rfl)]; exact hb) ?_
              refine V_callVv (st := []) [.int a1, .int x3, .int x8, .int (I32 61 (x2).toNatClampNeg)] dX8_giveJoin_177 ok_mX8_copyRow rfl ml_RX8_158 in_mX8_copyRow se_mX8_copyRow (hS.n 51 rfl) (hS.k 51 8 rfl) (by decide) rfl (Nat.le_of_ble_eq_true rfl) (by decide) (by decide) (by decide) (s_mX8_copyRow hS h) (fun I33 J9 h => ?_)
              obtain ⟨rfl, h⟩ := h
              refine V_aload_n dX8_giveJoin_180 rfl rfl ?_
              refine V_getr dX8_giveJoin_181 fl_RX8_51 (hS.n 51 rfl) (hS.k 51 8 rfl) rfl (hS.r 51 18 64 rfl) ?_
              refine V_iload_n dX8_giveJoin_184 rfl rfl ?_
              refine V_dup2 dX8_giveJoin_185 rfl rfl ?_
              obtain ⟨hb, h⟩ := h
              refine V_iald dX8_giveJoin_186 (hS.n 64 rfl) (hS.k 64 9 rfl) (by rw [(hS.z 64 24 rfl)]; exact hb) ?_
              refine V_iconst (v := 1) dX8_giveJoin_187 (by decide) ?_
              refine V_iadd dX8_giveJoin_188 ?_
              obtain ⟨hb, h⟩ := h
              refine V_iast dX8_giveJoin_189 (hS.n 64 rfl) (hS.k 64 9 rfl) (by rw [(hS.z 64 24 rfl)]; exact hb) ?_
              refine V_memI (fun I34 e_I34 => ?_)
              replace h := h I34 e_I34
              obtain ⟨v35, e_v35⟩ : ∃ z : Int32, z = (x8 + 1) := ⟨_, rfl⟩
              replace h := h v35 e_v35
              refine V_iinc (lo2 := [(8, .int v35), (7, .int v29), (6, .int v25), (9, .int r6), (0, .ref 51), (1, .int a1), (2, .int x2), (3, .int x3), (4, .int x4), (5, .int x5)]) 9 dX8_giveJoin_190 rfl (v := v35) (by rw [e_v35]; first | done | rfl) (by decide) rfl ?_
              refine V_goto 45 dX8_giveJoin_193 rfl ?_
              refine V_sub (lo2 := [(0, .ref 51), (1, .int a1), (2, .int x2), (3, .int x3), (4, .int x4), (5, .int x5), (6, .int v25), (7, .int v29), (8, .int v35)]) [4, 5, 6, 7, 8, 9, 2, 1, 0] rfl ?_
              exact ih _ _ _ _ _ _ _ _ h
        · replace h := h.2 hc
          refine V_iconst (v := 1) dX8_giveJoin_138 (by decide) ?_
          refine V_goto 143 dX8_giveJoin_139 rfl ?_
          refine V_iadd dX8_giveJoin_143 ?_
          refine V_topi (fun v36 e_v36 => ?_)
          replace h := h v36 e_v36
          refine V_istore (lo2 := [(7, .int v36), (6, .int v25), (9, .int r6), (0, .ref 51), (1, .int a1), (2, .int x2), (3, .int x3), (4, .int x4), (5, .int x5), (8, .int x8)]) dX8_giveJoin_144 (by decide) rfl ?_
          refine V_iload dX8_giveJoin_146 rfl ?_
          refine V_if_eq 190 dX8_giveJoin_148 rfl (fun hc => ?_) (fun hc => ?_)
          · replace h := h.1 hc
            obtain ⟨v37, e_v37⟩ : ∃ z : Int32, z = (x8 + 1) := ⟨_, rfl⟩
            replace h := h v37 e_v37
            refine V_iinc (lo2 := [(8, .int v37), (7, .int v36), (6, .int v25), (9, .int r6), (0, .ref 51), (1, .int a1), (2, .int x2), (3, .int x3), (4, .int x4), (5, .int x5)]) 9 dX8_giveJoin_190 rfl (v := v37) (by rw [e_v37]; first | done | rfl) (by decide) rfl ?_
            refine V_goto 45 dX8_giveJoin_193 rfl ?_
            refine V_sub (lo2 := [(0, .ref 51), (1, .int a1), (2, .int x2), (3, .int x3), (4, .int x4), (5, .int x5), (6, .int v25), (7, .int v36), (8, .int v37)]) [4, 5, 6, 7, 8, 9, 2, 1, 0] rfl ?_
            exact ih _ _ _ _ _ _ _ _ h
          · replace h := h.2 hc
            refine V_iload dX8_giveJoin_151 rfl ?_
            refine V_iconst (v := 2) dX8_giveJoin_153 (by decide) ?_
            refine V_icmp_ge 190 dX8_giveJoin_154 rfl (fun hc => ?_) (fun hc => ?_)
            · replace h := h.1 hc
              obtain ⟨v38, e_v38⟩ : ∃ z : Int32, z = (x8 + 1) := ⟨_, rfl⟩
              replace h := h v38 e_v38
              refine V_iinc (lo2 := [(8, .int v38), (7, .int v36), (6, .int v25), (9, .int r6), (0, .ref 51), (1, .int a1), (2, .int x2), (3, .int x3), (4, .int x4), (5, .int x5)]) 9 dX8_giveJoin_190 rfl (v := v38) (by rw [e_v38]; first | done | rfl) (by decide) rfl ?_
              refine V_goto 45 dX8_giveJoin_193 rfl ?_
              refine V_sub (lo2 := [(0, .ref 51), (1, .int a1), (2, .int x2), (3, .int x3), (4, .int x4), (5, .int x5), (6, .int v25), (7, .int v36), (8, .int v38)]) [4, 5, 6, 7, 8, 9, 2, 1, 0] rfl ?_
              exact ih _ _ _ _ _ _ _ _ h
            · replace h := h.2 hc
              refine V_aload_n dX8_giveJoin_157 rfl rfl ?_
              refine V_iload_n dX8_giveJoin_158 rfl rfl ?_
              refine V_iload_n dX8_giveJoin_159 rfl rfl ?_
              refine V_iload dX8_giveJoin_160 rfl ?_
              refine V_iconst (v := 0) dX8_giveJoin_162 (by decide) ?_
              refine V_callVv (st := []) [.int a1, .int x2, .int x5, .int 0] dX8_giveJoin_163 ok_mX8_copyRow rfl ml_RX8_158 in_mX8_copyRow se_mX8_copyRow (hS.n 51 rfl) (hS.k 51 8 rfl) (by decide) rfl (Nat.le_of_ble_eq_true rfl) (by decide) (by decide) (by decide) (s_mX8_copyRow hS h) (fun I39 J9 h => ?_)
              obtain ⟨rfl, h⟩ := h
              refine V_aload_n dX8_giveJoin_166 rfl rfl ?_
              refine V_iload_n dX8_giveJoin_167 rfl rfl ?_
              refine V_iload_n dX8_giveJoin_168 rfl rfl ?_
              refine V_iload dX8_giveJoin_169 rfl ?_
              refine V_aload_n dX8_giveJoin_171 rfl rfl ?_
              refine V_getr dX8_giveJoin_172 fl_RX8_37 (hS.n 51 rfl) (hS.k 51 8 rfl) rfl (hS.r 51 12 61 rfl) ?_
              refine V_iload_n dX8_giveJoin_175 rfl rfl ?_
              obtain ⟨hb, h⟩ := h
              refine V_iald dX8_giveJoin_176 (hS.n 61 rfl) (hS.k 61 9 rfl) (by rw [(hS.z 61 24 rfl)]; exact hb) ?_
              refine V_callVv (st := []) [.int a1, .int x3, .int x8, .int (I39 61 (x2).toNatClampNeg)] dX8_giveJoin_177 ok_mX8_copyRow rfl ml_RX8_158 in_mX8_copyRow se_mX8_copyRow (hS.n 51 rfl) (hS.k 51 8 rfl) (by decide) rfl (Nat.le_of_ble_eq_true rfl) (by decide) (by decide) (by decide) (s_mX8_copyRow hS h) (fun I40 J9 h => ?_)
              obtain ⟨rfl, h⟩ := h
              refine V_aload_n dX8_giveJoin_180 rfl rfl ?_
              refine V_getr dX8_giveJoin_181 fl_RX8_51 (hS.n 51 rfl) (hS.k 51 8 rfl) rfl (hS.r 51 18 64 rfl) ?_
              refine V_iload_n dX8_giveJoin_184 rfl rfl ?_
              refine V_dup2 dX8_giveJoin_185 rfl rfl ?_
              obtain ⟨hb, h⟩ := h
              refine V_iald dX8_giveJoin_186 (hS.n 64 rfl) (hS.k 64 9 rfl) (by rw [(hS.z 64 24 rfl)]; exact hb) ?_
              refine V_iconst (v := 1) dX8_giveJoin_187 (by decide) ?_
              refine V_iadd dX8_giveJoin_188 ?_
              obtain ⟨hb, h⟩ := h
              refine V_iast dX8_giveJoin_189 (hS.n 64 rfl) (hS.k 64 9 rfl) (by rw [(hS.z 64 24 rfl)]; exact hb) ?_
              refine V_memI (fun I41 e_I41 => ?_)
              replace h := h I41 e_I41
              obtain ⟨v42, e_v42⟩ : ∃ z : Int32, z = (x8 + 1) := ⟨_, rfl⟩
              replace h := h v42 e_v42
              refine V_iinc (lo2 := [(8, .int v42), (7, .int v36), (6, .int v25), (9, .int r6), (0, .ref 51), (1, .int a1), (2, .int x2), (3, .int x3), (4, .int x4), (5, .int x5)]) 9 dX8_giveJoin_190 rfl (v := v42) (by rw [e_v42]; first | done | rfl) (by decide) rfl ?_
              refine V_goto 45 dX8_giveJoin_193 rfl ?_
              refine V_sub (lo2 := [(0, .ref 51), (1, .int a1), (2, .int x2), (3, .int x3), (4, .int x4), (5, .int x5), (6, .int v25), (7, .int v36), (8, .int v42)]) [4, 5, 6, 7, 8, 9, 2, 1, 0] rfl ?_
              exact ih _ _ _ _ _ _ _ _ h
def wX8_giveJoin_275 (a1 : Int32) (K302 : Int32 → Int32 → Int32 → Int32 → QI → Prop) (post : QI → Prop) : Nat → Int32 → Int32 → Int32 → Int32 → Int32 → QI → Prop
  | 0, _, _, _, _, _, _ => False
  | n + 1, x2, x3, x4, x5, x9, I => (vp_in a1 24 ∧ (((I 61 (a1).toNatClampNeg) ≤ x9 → (K302 x2 x3 x4 x5 I)) ∧ (¬ (I 61 (a1).toNatClampNeg) ≤ x9 → (wX8_put a1 x9 (-1000) I (fun I54 => (∀ v55 : Int32, v55 = (x9 + 1) → (wX8_giveJoin_275 a1 K302 post n x2 x3 x4 x5 v55 I54)))))))
set_option maxRecDepth 100000 in
set_option maxHeartbeats 4000000 in
theorem swX8_giveJoin_275 {X : QX} {S : QS} {a1 : Int32} {J : QJ} {K302 : Int32 → Int32 → Int32 → Int32 → QI → Prop} {post : QI → Prop} (hS : Sh S) (hK302 : ∀ (z2 : Int32) (z3 : Int32) (z4 : Int32) (z5 : Int32) (I : QI), K302 z2 z3 z4 z5 I → V X mX8_giveJoin 2 0 0 (q_Pv S (fun I2 J2 => J = J2 ∧ post I2)) 302 [(0, .ref 51), (1, .int a1), (2, .int z2), (3, .int z3), (4, .int z4), (5, .int z5)] [] S I J 0 0) : ∀ (f : Nat) (x2 : Int32) (x3 : Int32) (x4 : Int32) (x5 : Int32) (x9 : Int32) (I : QI), wX8_giveJoin_275 a1 K302 post f x2 x3 x4 x5 x9 I → V X mX8_giveJoin 2 0 0 (q_Pv S (fun I2 J2 => J = J2 ∧ post I2)) 275 [(0, .ref 51), (1, .int a1), (2, .int x2), (3, .int x3), (4, .int x4), (5, .int x5), (9, .int x9)] [] S I J 0 0 := by
  intro f
  induction f with
  | zero => intro x2 x3 x4 x5 x9 I h; exact h.elim
  | succ n ih =>
    intro x2 x3 x4 x5 x9 I h
    replace h : (vp_in a1 24 ∧ (((I 61 (a1).toNatClampNeg) ≤ x9 → (K302 x2 x3 x4 x5 I)) ∧ (¬ (I 61 (a1).toNatClampNeg) ≤ x9 → (wX8_put a1 x9 (-1000) I (fun I54 => (∀ v55 : Int32, v55 = (x9 + 1) → (wX8_giveJoin_275 a1 K302 post n x2 x3 x4 x5 v55 I54))))))) := h
    refine V_iload dX8_giveJoin_275 rfl ?_
    refine V_aload_n dX8_giveJoin_277 rfl rfl ?_
    refine V_getr dX8_giveJoin_278 fl_RX8_37 (hS.n 51 rfl) (hS.k 51 8 rfl) rfl (hS.r 51 12 61 rfl) ?_
    refine V_iload_n dX8_giveJoin_281 rfl rfl ?_
    obtain ⟨hb, h⟩ := h
    refine V_iald dX8_giveJoin_282 (hS.n 61 rfl) (hS.k 61 9 rfl) (by rw [(hS.z 61 24 rfl)]; exact hb) ?_
    refine V_icmp_ge 302 dX8_giveJoin_283 rfl (fun hc => ?_) (fun hc => ?_)
    · replace h := h.1 hc
      refine V_sub (lo2 := [(0, .ref 51), (1, .int a1), (2, .int x2), (3, .int x3), (4, .int x4), (5, .int x5)]) [0, 1, 2, 3, 4, 5] rfl ?_
      exact hK302 _ _ _ _ _ h
    · replace h := h.2 hc
      refine V_aload_n dX8_giveJoin_286 rfl rfl ?_
      refine V_iload_n dX8_giveJoin_287 rfl rfl ?_
      refine V_iload dX8_giveJoin_288 rfl ?_
      refine V_sipush (v := (-1000)) dX8_giveJoin_290 (by decide) ?_
      refine V_callVv (st := []) [.int a1, .int x9, .int (-1000)] dX8_giveJoin_293 ok_mX8_put rfl ml_RX8_148 in_mX8_put se_mX8_put (hS.n 51 rfl) (hS.k 51 8 rfl) (by decide) rfl (Nat.le_of_ble_eq_true rfl) (by decide) (by decide) (by decide) (s_mX8_put hS h) (fun I54 J9 h => ?_)
      obtain ⟨rfl, h⟩ := h
      obtain ⟨v55, e_v55⟩ : ∃ z : Int32, z = (x9 + 1) := ⟨_, rfl⟩
      replace h := h v55 e_v55
      refine V_iinc (lo2 := [(9, .int v55), (0, .ref 51), (1, .int a1), (2, .int x2), (3, .int x3), (4, .int x4), (5, .int x5)]) 6 dX8_giveJoin_296 rfl (v := v55) (by rw [e_v55]; first | done | rfl) (by decide) rfl ?_
      refine V_goto 275 dX8_giveJoin_299 rfl ?_
      refine V_sub (lo2 := [(0, .ref 51), (1, .int a1), (2, .int x2), (3, .int x3), (4, .int x4), (5, .int x5), (9, .int v55)]) [1, 2, 3, 4, 5, 6, 0] rfl ?_
      exact ih _ _ _ _ _ _ h
def wX8_giveJoin_25 (a1 : Int32) (post : QI → Prop) : Nat → Int32 → Int32 → Int32 → Int32 → QI → Prop
  | 0, _, _, _, _, _ => False
  | n + 1, x2, x3, x4, x5, I => (vp_in x2 24 ∧ (((I 64 (x2).toNatClampNeg) ≤ x5 → post I) ∧ (¬ (I 64 (x2).toNatClampNeg) ≤ x5 → (∃ f : Nat, wX8_giveJoin_45 a1 (fun u43 u44 u45 u46 u47 u48 I49 => ((¬ u45 = 1 → ((¬ u45 = 2 → ((¬ u45 = 3 → ((u45 ≤ 3 → (∀ v50 : Int32, v50 = (u46 + 1) → (wX8_giveJoin_25 a1 post n u43 u44 u45 v50 I49))) ∧ (¬ u45 ≤ 3 → (vp_in u44 24 ∧ ((¬ u48 = (I49 64 (u44).toNatClampNeg) → (∀ v51 : Int32, v51 = (u46 + 1) → (wX8_giveJoin_25 a1 post n u43 u44 u45 v51 I49))) ∧ (u48 = (I49 64 (u44).toNatClampNeg) → (wX8_copyRow a1 u43 u46 0 I49 (fun I52 => (vp_in u43 24 ∧ (∀ v53 : Int32, v53 = (I52 61 (u43).toNatClampNeg) → (∃ f : Nat, wX8_giveJoin_275 a1 (fun u56 u57 u58 u59 I60 => (vp_in a1 24 ∧ (vp_in a1 24 ∧ (∀ I61 : QI, I61 = q_u2 I60 64 (a1).toNatClampNeg ((I60 64 (a1).toNatClampNeg) + 1) → (∀ v62 : Int32, v62 = (u59 + 1) → (wX8_giveJoin_25 a1 post n u56 u57 u58 v62 I61)))))) post f u43 u44 u45 u46 v53 I52))))))))))) ∧ (u45 = 3 → ((u47 = 0 → (wX8_copyRow a1 u43 u46 0 I49 (fun I63 => (vp_in u43 24 ∧ (∀ v64 : Int32, v64 = (I63 61 (u43).toNatClampNeg) → (∃ f : Nat, wX8_giveJoin_275 a1 (fun u65 u66 u67 u68 I69 => (vp_in a1 24 ∧ (vp_in a1 24 ∧ (∀ I70 : QI, I70 = q_u2 I69 64 (a1).toNatClampNeg ((I69 64 (a1).toNatClampNeg) + 1) → (∀ v71 : Int32, v71 = (u68 + 1) → (wX8_giveJoin_25 a1 post n u65 u66 u67 v71 I70)))))) post f u43 u44 u45 u46 v64 I63)))))) ∧ (¬ u47 = 0 → ((u45 ≤ 3 → (∀ v72 : Int32, v72 = (u46 + 1) → (wX8_giveJoin_25 a1 post n u43 u44 u45 v72 I49))) ∧ (¬ u45 ≤ 3 → (vp_in u44 24 ∧ ((¬ u48 = (I49 64 (u44).toNatClampNeg) → (∀ v73 : Int32, v73 = (u46 + 1) → (wX8_giveJoin_25 a1 post n u43 u44 u45 v73 I49))) ∧ (u48 = (I49 64 (u44).toNatClampNeg) → (wX8_copyRow a1 u43 u46 0 I49 (fun I74 => (vp_in u43 24 ∧ (∀ v75 : Int32, v75 = (I74 61 (u43).toNatClampNeg) → (∃ f : Nat, wX8_giveJoin_275 a1 (fun u76 u77 u78 u79 I80 => (vp_in a1 24 ∧ (vp_in a1 24 ∧ (∀ I81 : QI, I81 = q_u2 I80 64 (a1).toNatClampNeg ((I80 64 (a1).toNatClampNeg) + 1) → (∀ v82 : Int32, v82 = (u79 + 1) → (wX8_giveJoin_25 a1 post n u76 u77 u78 v82 I81)))))) post f u43 u44 u45 u46 v75 I74))))))))))))))) ∧ (u45 = 2 → ((0 < u47 → (wX8_copyRow a1 u43 u46 0 I49 (fun I83 => (vp_in u43 24 ∧ (∀ v84 : Int32, v84 = (I83 61 (u43).toNatClampNeg) → (∃ f : Nat, wX8_giveJoin_275 a1 (fun u85 u86 u87 u88 I89 => (vp_in a1 24 ∧ (vp_in a1 24 ∧ (∀ I90 : QI, I90 = q_u2 I89 64 (a1).toNatClampNeg ((I89 64 (a1).toNatClampNeg) + 1) → (∀ v91 : Int32, v91 = (u88 + 1) → (wX8_giveJoin_25 a1 post n u85 u86 u87 v91 I90)))))) post f u43 u44 u45 u46 v84 I83)))))) ∧ (¬ 0 < u47 → ((¬ u45 = 3 → ((u45 ≤ 3 → (∀ v92 : Int32, v92 = (u46 + 1) → (wX8_giveJoin_25 a1 post n u43 u44 u45 v92 I49))) ∧ (¬ u45 ≤ 3 → (vp_in u44 24 ∧ ((¬ u48 = (I49 64 (u44).toNatClampNeg) → (∀ v93 : Int32, v93 = (u46 + 1) → (wX8_giveJoin_25 a1 post n u43 u44 u45 v93 I49))) ∧ (u48 = (I49 64 (u44).toNatClampNeg) → (wX8_copyRow a1 u43 u46 0 I49 (fun I94 => (vp_in u43 24 ∧ (∀ v95 : Int32, v95 = (I94 61 (u43).toNatClampNeg) → (∃ f : Nat, wX8_giveJoin_275 a1 (fun u96 u97 u98 u99 I100 => (vp_in a1 24 ∧ (vp_in a1 24 ∧ (∀ I101 : QI, I101 = q_u2 I100 64 (a1).toNatClampNeg ((I100 64 (a1).toNatClampNeg) + 1) → (∀ v102 : Int32, v102 = (u99 + 1) → (wX8_giveJoin_25 a1 post n u96 u97 u98 v102 I101)))))) post f u43 u44 u45 u46 v95 I94))))))))))) ∧ (u45 = 3 → ((u47 = 0 → (wX8_copyRow a1 u43 u46 0 I49 (fun I103 => (vp_in u43 24 ∧ (∀ v104 : Int32, v104 = (I103 61 (u43).toNatClampNeg) → (∃ f : Nat, wX8_giveJoin_275 a1 (fun u105 u106 u107 u108 I109 => (vp_in a1 24 ∧ (vp_in a1 24 ∧ (∀ I110 : QI, I110 = q_u2 I109 64 (a1).toNatClampNeg ((I109 64 (a1).toNatClampNeg) + 1) → (∀ v111 : Int32, v111 = (u108 + 1) → (wX8_giveJoin_25 a1 post n u105 u106 u107 v111 I110)))))) post f u43 u44 u45 u46 v104 I103)))))) ∧ (¬ u47 = 0 → ((u45 ≤ 3 → (∀ v112 : Int32, v112 = (u46 + 1) → (wX8_giveJoin_25 a1 post n u43 u44 u45 v112 I49))) ∧ (¬ u45 ≤ 3 → (vp_in u44 24 ∧ ((¬ u48 = (I49 64 (u44).toNatClampNeg) → (∀ v113 : Int32, v113 = (u46 + 1) → (wX8_giveJoin_25 a1 post n u43 u44 u45 v113 I49))) ∧ (u48 = (I49 64 (u44).toNatClampNeg) → (wX8_copyRow a1 u43 u46 0 I49 (fun I114 => (vp_in u43 24 ∧ (∀ v115 : Int32, v115 = (I114 61 (u43).toNatClampNeg) → (∃ f : Nat, wX8_giveJoin_275 a1 (fun u116 u117 u118 u119 I120 => (vp_in a1 24 ∧ (vp_in a1 24 ∧ (∀ I121 : QI, I121 = q_u2 I120 64 (a1).toNatClampNeg ((I120 64 (a1).toNatClampNeg) + 1) → (∀ v122 : Int32, v122 = (u119 + 1) → (wX8_giveJoin_25 a1 post n u116 u117 u118 v122 I121)))))) post f u43 u44 u45 u46 v115 I114))))))))))))))))))) ∧ (u45 = 1 → ((¬ u47 = 0 → ((¬ u45 = 2 → ((¬ u45 = 3 → ((u45 ≤ 3 → (∀ v123 : Int32, v123 = (u46 + 1) → (wX8_giveJoin_25 a1 post n u43 u44 u45 v123 I49))) ∧ (¬ u45 ≤ 3 → (vp_in u44 24 ∧ ((¬ u48 = (I49 64 (u44).toNatClampNeg) → (∀ v124 : Int32, v124 = (u46 + 1) → (wX8_giveJoin_25 a1 post n u43 u44 u45 v124 I49))) ∧ (u48 = (I49 64 (u44).toNatClampNeg) → (wX8_copyRow a1 u43 u46 0 I49 (fun I125 => (vp_in u43 24 ∧ (∀ v126 : Int32, v126 = (I125 61 (u43).toNatClampNeg) → (∃ f : Nat, wX8_giveJoin_275 a1 (fun u127 u128 u129 u130 I131 => (vp_in a1 24 ∧ (vp_in a1 24 ∧ (∀ I132 : QI, I132 = q_u2 I131 64 (a1).toNatClampNeg ((I131 64 (a1).toNatClampNeg) + 1) → (∀ v133 : Int32, v133 = (u130 + 1) → (wX8_giveJoin_25 a1 post n u127 u128 u129 v133 I132)))))) post f u43 u44 u45 u46 v126 I125))))))))))) ∧ (u45 = 3 → ((u47 = 0 → (wX8_copyRow a1 u43 u46 0 I49 (fun I134 => (vp_in u43 24 ∧ (∀ v135 : Int32, v135 = (I134 61 (u43).toNatClampNeg) → (∃ f : Nat, wX8_giveJoin_275 a1 (fun u136 u137 u138 u139 I140 => (vp_in a1 24 ∧ (vp_in a1 24 ∧ (∀ I141 : QI, I141 = q_u2 I140 64 (a1).toNatClampNeg ((I140 64 (a1).toNatClampNeg) + 1) → (∀ v142 : Int32, v142 = (u139 + 1) → (wX8_giveJoin_25 a1 post n u136 u137 u138 v142 I141)))))) post f u43 u44 u45 u46 v135 I134)))))) ∧ (¬ u47 = 0 → ((u45 ≤ 3 → (∀ v143 : Int32, v143 = (u46 + 1) → (wX8_giveJoin_25 a1 post n u43 u44 u45 v143 I49))) ∧ (¬ u45 ≤ 3 → (vp_in u44 24 ∧ ((¬ u48 = (I49 64 (u44).toNatClampNeg) → (∀ v144 : Int32, v144 = (u46 + 1) → (wX8_giveJoin_25 a1 post n u43 u44 u45 v144 I49))) ∧ (u48 = (I49 64 (u44).toNatClampNeg) → (wX8_copyRow a1 u43 u46 0 I49 (fun I145 => (vp_in u43 24 ∧ (∀ v146 : Int32, v146 = (I145 61 (u43).toNatClampNeg) → (∃ f : Nat, wX8_giveJoin_275 a1 (fun u147 u148 u149 u150 I151 => (vp_in a1 24 ∧ (vp_in a1 24 ∧ (∀ I152 : QI, I152 = q_u2 I151 64 (a1).toNatClampNeg ((I151 64 (a1).toNatClampNeg) + 1) → (∀ v153 : Int32, v153 = (u150 + 1) → (wX8_giveJoin_25 a1 post n u147 u148 u149 v153 I152)))))) post f u43 u44 u45 u46 v146 I145))))))))))))))) ∧ (u45 = 2 → ((0 < u47 → (wX8_copyRow a1 u43 u46 0 I49 (fun I154 => (vp_in u43 24 ∧ (∀ v155 : Int32, v155 = (I154 61 (u43).toNatClampNeg) → (∃ f : Nat, wX8_giveJoin_275 a1 (fun u156 u157 u158 u159 I160 => (vp_in a1 24 ∧ (vp_in a1 24 ∧ (∀ I161 : QI, I161 = q_u2 I160 64 (a1).toNatClampNeg ((I160 64 (a1).toNatClampNeg) + 1) → (∀ v162 : Int32, v162 = (u159 + 1) → (wX8_giveJoin_25 a1 post n u156 u157 u158 v162 I161)))))) post f u43 u44 u45 u46 v155 I154)))))) ∧ (¬ 0 < u47 → ((¬ u45 = 3 → ((u45 ≤ 3 → (∀ v163 : Int32, v163 = (u46 + 1) → (wX8_giveJoin_25 a1 post n u43 u44 u45 v163 I49))) ∧ (¬ u45 ≤ 3 → (vp_in u44 24 ∧ ((¬ u48 = (I49 64 (u44).toNatClampNeg) → (∀ v164 : Int32, v164 = (u46 + 1) → (wX8_giveJoin_25 a1 post n u43 u44 u45 v164 I49))) ∧ (u48 = (I49 64 (u44).toNatClampNeg) → (wX8_copyRow a1 u43 u46 0 I49 (fun I165 => (vp_in u43 24 ∧ (∀ v166 : Int32, v166 = (I165 61 (u43).toNatClampNeg) → (∃ f : Nat, wX8_giveJoin_275 a1 (fun u167 u168 u169 u170 I171 => (vp_in a1 24 ∧ (vp_in a1 24 ∧ (∀ I172 : QI, I172 = q_u2 I171 64 (a1).toNatClampNeg ((I171 64 (a1).toNatClampNeg) + 1) → (∀ v173 : Int32, v173 = (u170 + 1) → (wX8_giveJoin_25 a1 post n u167 u168 u169 v173 I172)))))) post f u43 u44 u45 u46 v166 I165))))))))))) ∧ (u45 = 3 → ((u47 = 0 → (wX8_copyRow a1 u43 u46 0 I49 (fun I174 => (vp_in u43 24 ∧ (∀ v175 : Int32, v175 = (I174 61 (u43).toNatClampNeg) → (∃ f : Nat, wX8_giveJoin_275 a1 (fun u176 u177 u178 u179 I180 => (vp_in a1 24 ∧ (vp_in a1 24 ∧ (∀ I181 : QI, I181 = q_u2 I180 64 (a1).toNatClampNeg ((I180 64 (a1).toNatClampNeg) + 1) → (∀ v182 : Int32, v182 = (u179 + 1) → (wX8_giveJoin_25 a1 post n u176 u177 u178 v182 I181)))))) post f u43 u44 u45 u46 v175 I174)))))) ∧ (¬ u47 = 0 → ((u45 ≤ 3 → (∀ v183 : Int32, v183 = (u46 + 1) → (wX8_giveJoin_25 a1 post n u43 u44 u45 v183 I49))) ∧ (¬ u45 ≤ 3 → (vp_in u44 24 ∧ ((¬ u48 = (I49 64 (u44).toNatClampNeg) → (∀ v184 : Int32, v184 = (u46 + 1) → (wX8_giveJoin_25 a1 post n u43 u44 u45 v184 I49))) ∧ (u48 = (I49 64 (u44).toNatClampNeg) → (wX8_copyRow a1 u43 u46 0 I49 (fun I185 => (vp_in u43 24 ∧ (∀ v186 : Int32, v186 = (I185 61 (u43).toNatClampNeg) → (∃ f : Nat, wX8_giveJoin_275 a1 (fun u187 u188 u189 u190 I191 => (vp_in a1 24 ∧ (vp_in a1 24 ∧ (∀ I192 : QI, I192 = q_u2 I191 64 (a1).toNatClampNeg ((I191 64 (a1).toNatClampNeg) + 1) → (∀ v193 : Int32, v193 = (u190 + 1) → (wX8_giveJoin_25 a1 post n u187 u188 u189 v193 I192)))))) post f u43 u44 u45 u46 v186 I185))))))))))))))))))) ∧ (u47 = 0 → (wX8_copyRow a1 u43 u46 0 I49 (fun I194 => (vp_in u43 24 ∧ (∀ v195 : Int32, v195 = (I194 61 (u43).toNatClampNeg) → (∃ f : Nat, wX8_giveJoin_275 a1 (fun u196 u197 u198 u199 I200 => (vp_in a1 24 ∧ (vp_in a1 24 ∧ (∀ I201 : QI, I201 = q_u2 I200 64 (a1).toNatClampNeg ((I200 64 (a1).toNatClampNeg) + 1) → (∀ v202 : Int32, v202 = (u199 + 1) → (wX8_giveJoin_25 a1 post n u196 u197 u198 v202 I201)))))) post f u43 u44 u45 u46 v195 I194)))))))))) post f x2 x3 x4 x5 0 0 0 I))))
set_option maxRecDepth 100000 in
set_option maxHeartbeats 4000000 in
theorem swX8_giveJoin_25 {X : QX} {S : QS} {a1 : Int32} {J : QJ} {post : QI → Prop} (hS : Sh S) : ∀ (f : Nat) (x2 : Int32) (x3 : Int32) (x4 : Int32) (x5 : Int32) (I : QI), wX8_giveJoin_25 a1 post f x2 x3 x4 x5 I → V X mX8_giveJoin 2 0 0 (q_Pv S (fun I2 J2 => J = J2 ∧ post I2)) 25 [(0, .ref 51), (1, .int a1), (2, .int x2), (3, .int x3), (4, .int x4), (5, .int x5)] [] S I J 0 0 := by
  intro f
  induction f with
  | zero => intro x2 x3 x4 x5 I h; exact h.elim
  | succ n ih =>
    intro x2 x3 x4 x5 I h
    replace h : (vp_in x2 24 ∧ (((I 64 (x2).toNatClampNeg) ≤ x5 → post I) ∧ (¬ (I 64 (x2).toNatClampNeg) ≤ x5 → (∃ f : Nat, wX8_giveJoin_45 a1 (fun u43 u44 u45 u46 u47 u48 I49 => ((¬ u45 = 1 → ((¬ u45 = 2 → ((¬ u45 = 3 → ((u45 ≤ 3 → (∀ v50 : Int32, v50 = (u46 + 1) → (wX8_giveJoin_25 a1 post n u43 u44 u45 v50 I49))) ∧ (¬ u45 ≤ 3 → (vp_in u44 24 ∧ ((¬ u48 = (I49 64 (u44).toNatClampNeg) → (∀ v51 : Int32, v51 = (u46 + 1) → (wX8_giveJoin_25 a1 post n u43 u44 u45 v51 I49))) ∧ (u48 = (I49 64 (u44).toNatClampNeg) → (wX8_copyRow a1 u43 u46 0 I49 (fun I52 => (vp_in u43 24 ∧ (∀ v53 : Int32, v53 = (I52 61 (u43).toNatClampNeg) → (∃ f : Nat, wX8_giveJoin_275 a1 (fun u56 u57 u58 u59 I60 => (vp_in a1 24 ∧ (vp_in a1 24 ∧ (∀ I61 : QI, I61 = q_u2 I60 64 (a1).toNatClampNeg ((I60 64 (a1).toNatClampNeg) + 1) → (∀ v62 : Int32, v62 = (u59 + 1) → (wX8_giveJoin_25 a1 post n u56 u57 u58 v62 I61)))))) post f u43 u44 u45 u46 v53 I52))))))))))) ∧ (u45 = 3 → ((u47 = 0 → (wX8_copyRow a1 u43 u46 0 I49 (fun I63 => (vp_in u43 24 ∧ (∀ v64 : Int32, v64 = (I63 61 (u43).toNatClampNeg) → (∃ f : Nat, wX8_giveJoin_275 a1 (fun u65 u66 u67 u68 I69 => (vp_in a1 24 ∧ (vp_in a1 24 ∧ (∀ I70 : QI, I70 = q_u2 I69 64 (a1).toNatClampNeg ((I69 64 (a1).toNatClampNeg) + 1) → (∀ v71 : Int32, v71 = (u68 + 1) → (wX8_giveJoin_25 a1 post n u65 u66 u67 v71 I70)))))) post f u43 u44 u45 u46 v64 I63)))))) ∧ (¬ u47 = 0 → ((u45 ≤ 3 → (∀ v72 : Int32, v72 = (u46 + 1) → (wX8_giveJoin_25 a1 post n u43 u44 u45 v72 I49))) ∧ (¬ u45 ≤ 3 → (vp_in u44 24 ∧ ((¬ u48 = (I49 64 (u44).toNatClampNeg) → (∀ v73 : Int32, v73 = (u46 + 1) → (wX8_giveJoin_25 a1 post n u43 u44 u45 v73 I49))) ∧ (u48 = (I49 64 (u44).toNatClampNeg) → (wX8_copyRow a1 u43 u46 0 I49 (fun I74 => (vp_in u43 24 ∧ (∀ v75 : Int32, v75 = (I74 61 (u43).toNatClampNeg) → (∃ f : Nat, wX8_giveJoin_275 a1 (fun u76 u77 u78 u79 I80 => (vp_in a1 24 ∧ (vp_in a1 24 ∧ (∀ I81 : QI, I81 = q_u2 I80 64 (a1).toNatClampNeg ((I80 64 (a1).toNatClampNeg) + 1) → (∀ v82 : Int32, v82 = (u79 + 1) → (wX8_giveJoin_25 a1 post n u76 u77 u78 v82 I81)))))) post f u43 u44 u45 u46 v75 I74))))))))))))))) ∧ (u45 = 2 → ((0 < u47 → (wX8_copyRow a1 u43 u46 0 I49 (fun I83 => (vp_in u43 24 ∧ (∀ v84 : Int32, v84 = (I83 61 (u43).toNatClampNeg) → (∃ f : Nat, wX8_giveJoin_275 a1 (fun u85 u86 u87 u88 I89 => (vp_in a1 24 ∧ (vp_in a1 24 ∧ (∀ I90 : QI, I90 = q_u2 I89 64 (a1).toNatClampNeg ((I89 64 (a1).toNatClampNeg) + 1) → (∀ v91 : Int32, v91 = (u88 + 1) → (wX8_giveJoin_25 a1 post n u85 u86 u87 v91 I90)))))) post f u43 u44 u45 u46 v84 I83)))))) ∧ (¬ 0 < u47 → ((¬ u45 = 3 → ((u45 ≤ 3 → (∀ v92 : Int32, v92 = (u46 + 1) → (wX8_giveJoin_25 a1 post n u43 u44 u45 v92 I49))) ∧ (¬ u45 ≤ 3 → (vp_in u44 24 ∧ ((¬ u48 = (I49 64 (u44).toNatClampNeg) → (∀ v93 : Int32, v93 = (u46 + 1) → (wX8_giveJoin_25 a1 post n u43 u44 u45 v93 I49))) ∧ (u48 = (I49 64 (u44).toNatClampNeg) → (wX8_copyRow a1 u43 u46 0 I49 (fun I94 => (vp_in u43 24 ∧ (∀ v95 : Int32, v95 = (I94 61 (u43).toNatClampNeg) → (∃ f : Nat, wX8_giveJoin_275 a1 (fun u96 u97 u98 u99 I100 => (vp_in a1 24 ∧ (vp_in a1 24 ∧ (∀ I101 : QI, I101 = q_u2 I100 64 (a1).toNatClampNeg ((I100 64 (a1).toNatClampNeg) + 1) → (∀ v102 : Int32, v102 = (u99 + 1) → (wX8_giveJoin_25 a1 post n u96 u97 u98 v102 I101)))))) post f u43 u44 u45 u46 v95 I94))))))))))) ∧ (u45 = 3 → ((u47 = 0 → (wX8_copyRow a1 u43 u46 0 I49 (fun I103 => (vp_in u43 24 ∧ (∀ v104 : Int32, v104 = (I103 61 (u43).toNatClampNeg) → (∃ f : Nat, wX8_giveJoin_275 a1 (fun u105 u106 u107 u108 I109 => (vp_in a1 24 ∧ (vp_in a1 24 ∧ (∀ I110 : QI, I110 = q_u2 I109 64 (a1).toNatClampNeg ((I109 64 (a1).toNatClampNeg) + 1) → (∀ v111 : Int32, v111 = (u108 + 1) → (wX8_giveJoin_25 a1 post n u105 u106 u107 v111 I110)))))) post f u43 u44 u45 u46 v104 I103)))))) ∧ (¬ u47 = 0 → ((u45 ≤ 3 → (∀ v112 : Int32, v112 = (u46 + 1) → (wX8_giveJoin_25 a1 post n u43 u44 u45 v112 I49))) ∧ (¬ u45 ≤ 3 → (vp_in u44 24 ∧ ((¬ u48 = (I49 64 (u44).toNatClampNeg) → (∀ v113 : Int32, v113 = (u46 + 1) → (wX8_giveJoin_25 a1 post n u43 u44 u45 v113 I49))) ∧ (u48 = (I49 64 (u44).toNatClampNeg) → (wX8_copyRow a1 u43 u46 0 I49 (fun I114 => (vp_in u43 24 ∧ (∀ v115 : Int32, v115 = (I114 61 (u43).toNatClampNeg) → (∃ f : Nat, wX8_giveJoin_275 a1 (fun u116 u117 u118 u119 I120 => (vp_in a1 24 ∧ (vp_in a1 24 ∧ (∀ I121 : QI, I121 = q_u2 I120 64 (a1).toNatClampNeg ((I120 64 (a1).toNatClampNeg) + 1) → (∀ v122 : Int32, v122 = (u119 + 1) → (wX8_giveJoin_25 a1 post n u116 u117 u118 v122 I121)))))) post f u43 u44 u45 u46 v115 I114))))))))))))))))))) ∧ (u45 = 1 → ((¬ u47 = 0 → ((¬ u45 = 2 → ((¬ u45 = 3 → ((u45 ≤ 3 → (∀ v123 : Int32, v123 = (u46 + 1) → (wX8_giveJoin_25 a1 post n u43 u44 u45 v123 I49))) ∧ (¬ u45 ≤ 3 → (vp_in u44 24 ∧ ((¬ u48 = (I49 64 (u44).toNatClampNeg) → (∀ v124 : Int32, v124 = (u46 + 1) → (wX8_giveJoin_25 a1 post n u43 u44 u45 v124 I49))) ∧ (u48 = (I49 64 (u44).toNatClampNeg) → (wX8_copyRow a1 u43 u46 0 I49 (fun I125 => (vp_in u43 24 ∧ (∀ v126 : Int32, v126 = (I125 61 (u43).toNatClampNeg) → (∃ f : Nat, wX8_giveJoin_275 a1 (fun u127 u128 u129 u130 I131 => (vp_in a1 24 ∧ (vp_in a1 24 ∧ (∀ I132 : QI, I132 = q_u2 I131 64 (a1).toNatClampNeg ((I131 64 (a1).toNatClampNeg) + 1) → (∀ v133 : Int32, v133 = (u130 + 1) → (wX8_giveJoin_25 a1 post n u127 u128 u129 v133 I132)))))) post f u43 u44 u45 u46 v126 I125))))))))))) ∧ (u45 = 3 → ((u47 = 0 → (wX8_copyRow a1 u43 u46 0 I49 (fun I134 => (vp_in u43 24 ∧ (∀ v135 : Int32, v135 = (I134 61 (u43).toNatClampNeg) → (∃ f : Nat, wX8_giveJoin_275 a1 (fun u136 u137 u138 u139 I140 => (vp_in a1 24 ∧ (vp_in a1 24 ∧ (∀ I141 : QI, I141 = q_u2 I140 64 (a1).toNatClampNeg ((I140 64 (a1).toNatClampNeg) + 1) → (∀ v142 : Int32, v142 = (u139 + 1) → (wX8_giveJoin_25 a1 post n u136 u137 u138 v142 I141)))))) post f u43 u44 u45 u46 v135 I134)))))) ∧ (¬ u47 = 0 → ((u45 ≤ 3 → (∀ v143 : Int32, v143 = (u46 + 1) → (wX8_giveJoin_25 a1 post n u43 u44 u45 v143 I49))) ∧ (¬ u45 ≤ 3 → (vp_in u44 24 ∧ ((¬ u48 = (I49 64 (u44).toNatClampNeg) → (∀ v144 : Int32, v144 = (u46 + 1) → (wX8_giveJoin_25 a1 post n u43 u44 u45 v144 I49))) ∧ (u48 = (I49 64 (u44).toNatClampNeg) → (wX8_copyRow a1 u43 u46 0 I49 (fun I145 => (vp_in u43 24 ∧ (∀ v146 : Int32, v146 = (I145 61 (u43).toNatClampNeg) → (∃ f : Nat, wX8_giveJoin_275 a1 (fun u147 u148 u149 u150 I151 => (vp_in a1 24 ∧ (vp_in a1 24 ∧ (∀ I152 : QI, I152 = q_u2 I151 64 (a1).toNatClampNeg ((I151 64 (a1).toNatClampNeg) + 1) → (∀ v153 : Int32, v153 = (u150 + 1) → (wX8_giveJoin_25 a1 post n u147 u148 u149 v153 I152)))))) post f u43 u44 u45 u46 v146 I145))))))))))))))) ∧ (u45 = 2 → ((0 < u47 → (wX8_copyRow a1 u43 u46 0 I49 (fun I154 => (vp_in u43 24 ∧ (∀ v155 : Int32, v155 = (I154 61 (u43).toNatClampNeg) → (∃ f : Nat, wX8_giveJoin_275 a1 (fun u156 u157 u158 u159 I160 => (vp_in a1 24 ∧ (vp_in a1 24 ∧ (∀ I161 : QI, I161 = q_u2 I160 64 (a1).toNatClampNeg ((I160 64 (a1).toNatClampNeg) + 1) → (∀ v162 : Int32, v162 = (u159 + 1) → (wX8_giveJoin_25 a1 post n u156 u157 u158 v162 I161)))))) post f u43 u44 u45 u46 v155 I154)))))) ∧ (¬ 0 < u47 → ((¬ u45 = 3 → ((u45 ≤ 3 → (∀ v163 : Int32, v163 = (u46 + 1) → (wX8_giveJoin_25 a1 post n u43 u44 u45 v163 I49))) ∧ (¬ u45 ≤ 3 → (vp_in u44 24 ∧ ((¬ u48 = (I49 64 (u44).toNatClampNeg) → (∀ v164 : Int32, v164 = (u46 + 1) → (wX8_giveJoin_25 a1 post n u43 u44 u45 v164 I49))) ∧ (u48 = (I49 64 (u44).toNatClampNeg) → (wX8_copyRow a1 u43 u46 0 I49 (fun I165 => (vp_in u43 24 ∧ (∀ v166 : Int32, v166 = (I165 61 (u43).toNatClampNeg) → (∃ f : Nat, wX8_giveJoin_275 a1 (fun u167 u168 u169 u170 I171 => (vp_in a1 24 ∧ (vp_in a1 24 ∧ (∀ I172 : QI, I172 = q_u2 I171 64 (a1).toNatClampNeg ((I171 64 (a1).toNatClampNeg) + 1) → (∀ v173 : Int32, v173 = (u170 + 1) → (wX8_giveJoin_25 a1 post n u167 u168 u169 v173 I172)))))) post f u43 u44 u45 u46 v166 I165))))))))))) ∧ (u45 = 3 → ((u47 = 0 → (wX8_copyRow a1 u43 u46 0 I49 (fun I174 => (vp_in u43 24 ∧ (∀ v175 : Int32, v175 = (I174 61 (u43).toNatClampNeg) → (∃ f : Nat, wX8_giveJoin_275 a1 (fun u176 u177 u178 u179 I180 => (vp_in a1 24 ∧ (vp_in a1 24 ∧ (∀ I181 : QI, I181 = q_u2 I180 64 (a1).toNatClampNeg ((I180 64 (a1).toNatClampNeg) + 1) → (∀ v182 : Int32, v182 = (u179 + 1) → (wX8_giveJoin_25 a1 post n u176 u177 u178 v182 I181)))))) post f u43 u44 u45 u46 v175 I174)))))) ∧ (¬ u47 = 0 → ((u45 ≤ 3 → (∀ v183 : Int32, v183 = (u46 + 1) → (wX8_giveJoin_25 a1 post n u43 u44 u45 v183 I49))) ∧ (¬ u45 ≤ 3 → (vp_in u44 24 ∧ ((¬ u48 = (I49 64 (u44).toNatClampNeg) → (∀ v184 : Int32, v184 = (u46 + 1) → (wX8_giveJoin_25 a1 post n u43 u44 u45 v184 I49))) ∧ (u48 = (I49 64 (u44).toNatClampNeg) → (wX8_copyRow a1 u43 u46 0 I49 (fun I185 => (vp_in u43 24 ∧ (∀ v186 : Int32, v186 = (I185 61 (u43).toNatClampNeg) → (∃ f : Nat, wX8_giveJoin_275 a1 (fun u187 u188 u189 u190 I191 => (vp_in a1 24 ∧ (vp_in a1 24 ∧ (∀ I192 : QI, I192 = q_u2 I191 64 (a1).toNatClampNeg ((I191 64 (a1).toNatClampNeg) + 1) → (∀ v193 : Int32, v193 = (u190 + 1) → (wX8_giveJoin_25 a1 post n u187 u188 u189 v193 I192)))))) post f u43 u44 u45 u46 v186 I185))))))))))))))))))) ∧ (u47 = 0 → (wX8_copyRow a1 u43 u46 0 I49 (fun I194 => (vp_in u43 24 ∧ (∀ v195 : Int32, v195 = (I194 61 (u43).toNatClampNeg) → (∃ f : Nat, wX8_giveJoin_275 a1 (fun u196 u197 u198 u199 I200 => (vp_in a1 24 ∧ (vp_in a1 24 ∧ (∀ I201 : QI, I201 = q_u2 I200 64 (a1).toNatClampNeg ((I200 64 (a1).toNatClampNeg) + 1) → (∀ v202 : Int32, v202 = (u199 + 1) → (wX8_giveJoin_25 a1 post n u196 u197 u198 v202 I201)))))) post f u43 u44 u45 u46 v195 I194)))))))))) post f x2 x3 x4 x5 0 0 0 I)))) := h
    refine V_iload dX8_giveJoin_25 rfl ?_
    refine V_aload_n dX8_giveJoin_27 rfl rfl ?_
    refine V_getr dX8_giveJoin_28 fl_RX8_51 (hS.n 51 rfl) (hS.k 51 8 rfl) rfl (hS.r 51 18 64 rfl) ?_
    refine V_iload_n dX8_giveJoin_31 rfl rfl ?_
    obtain ⟨hb, h⟩ := h
    refine V_iald dX8_giveJoin_32 (hS.n 64 rfl) (hS.k 64 9 rfl) (by rw [(hS.z 64 24 rfl)]; exact hb) ?_
    refine V_icmp_ge 318 dX8_giveJoin_33 rfl (fun hc => ?_) (fun hc => ?_)
    · replace h := h.1 hc
      exact V_vret dX8_giveJoin_318 rfl (by decide) (by decide) ⟨rfl, rfl, rfl, h⟩
    · replace h := h.2 hc
      refine V_iconst (v := 0) dX8_giveJoin_36 (by decide) ?_
      refine V_istore (lo2 := [(6, .int 0), (0, .ref 51), (1, .int a1), (2, .int x2), (3, .int x3), (4, .int x4), (5, .int x5)]) dX8_giveJoin_37 (by decide) rfl ?_
      refine V_iconst (v := 0) dX8_giveJoin_39 (by decide) ?_
      refine V_istore (lo2 := [(7, .int 0), (6, .int 0), (0, .ref 51), (1, .int a1), (2, .int x2), (3, .int x3), (4, .int x4), (5, .int x5)]) dX8_giveJoin_40 (by decide) rfl ?_
      refine V_iconst (v := 0) dX8_giveJoin_42 (by decide) ?_
      refine V_istore (lo2 := [(8, .int 0), (7, .int 0), (6, .int 0), (0, .ref 51), (1, .int a1), (2, .int x2), (3, .int x3), (4, .int x4), (5, .int x5)]) dX8_giveJoin_43 (by decide) rfl ?_
      refine V_sub (lo2 := [(0, .ref 51), (1, .int a1), (2, .int x2), (3, .int x3), (4, .int x4), (5, .int x5), (6, .int 0), (7, .int 0), (8, .int 0)]) [3, 4, 5, 6, 7, 8, 2, 1, 0] rfl ?_
      obtain ⟨f9, h⟩ := h
      refine swX8_giveJoin_45 hS ?_ f9 _ _ _ _ _ _ _ _ h
      · intro u43 u44 u45 u46 u47 u48 I49 h
        refine V_iload dX8_giveJoin_196 rfl ?_
        refine V_iconst (v := 1) dX8_giveJoin_198 (by decide) ?_
        refine V_icmp_ne 211 dX8_giveJoin_199 rfl (fun hc => ?_) (fun hc => ?_)
        · replace h := h.1 hc
          refine V_iconst (v := 0) dX8_giveJoin_211 (by decide) ?_
          refine V_istore (lo2 := [(8, .int 0), (0, .ref 51), (1, .int a1), (2, .int u43), (3, .int u44), (4, .int u45), (5, .int u46), (6, .int u47), (7, .int u48)]) dX8_giveJoin_212 (by decide) rfl ?_
          refine V_iload dX8_giveJoin_214 rfl ?_
          refine V_if_ne 258 dX8_giveJoin_216 rfl (fun hc => ?_) (fun hc => ?_)
          · first | exact absurd hc (by decide) | exact absurd (by decide) hc
          · refine V_iload dX8_giveJoin_219 rfl ?_
            refine V_iconst (v := 2) dX8_giveJoin_221 (by decide) ?_
            refine V_icmp_ne 230 dX8_giveJoin_222 rfl (fun hc => ?_) (fun hc => ?_)
            · replace h := h.1 hc
              refine V_iload dX8_giveJoin_230 rfl ?_
              refine V_iconst (v := 3) dX8_giveJoin_232 (by decide) ?_
              refine V_icmp_ne 241 dX8_giveJoin_233 rfl (fun hc => ?_) (fun hc => ?_)
              · replace h := h.1 hc
                refine V_iload dX8_giveJoin_241 rfl ?_
                refine V_iconst (v := 3) dX8_giveJoin_243 (by decide) ?_
                refine V_icmp_le 312 dX8_giveJoin_244 rfl (fun hc => ?_) (fun hc => ?_)
                · replace h := h.1 hc
                  obtain ⟨v50, e_v50⟩ : ∃ z : Int32, z = (u46 + 1) := ⟨_, rfl⟩
                  replace h := h v50 e_v50
                  refine V_iinc (lo2 := [(5, .int v50), (8, .int 0), (0, .ref 51), (1, .int a1), (2, .int u43), (3, .int u44), (4, .int u45), (6, .int u47), (7, .int u48)]) 6 dX8_giveJoin_312 rfl (v := v50) (by rw [e_v50]; first | done | rfl) (by decide) rfl ?_
                  refine V_goto 25 dX8_giveJoin_315 rfl ?_
                  refine V_sub (lo2 := [(0, .ref 51), (1, .int a1), (2, .int u43), (3, .int u44), (4, .int u45), (5, .int v50)]) [2, 3, 4, 5, 6, 0] rfl ?_
                  exact ih _ _ _ _ _ h
                · replace h := h.2 hc
                  refine V_iload dX8_giveJoin_247 rfl ?_
                  refine V_aload_n dX8_giveJoin_249 rfl rfl ?_
                  refine V_getr dX8_giveJoin_250 fl_RX8_51 (hS.n 51 rfl) (hS.k 51 8 rfl) rfl (hS.r 51 18 64 rfl) ?_
                  refine V_iload_n dX8_giveJoin_253 rfl rfl ?_
                  obtain ⟨hb, h⟩ := h
                  refine V_iald dX8_giveJoin_254 (hS.n 64 rfl) (hS.k 64 9 rfl) (by rw [(hS.z 64 24 rfl)]; exact hb) ?_
                  refine V_icmp_ne 312 dX8_giveJoin_255 rfl (fun hc => ?_) (fun hc => ?_)
                  · replace h := h.1 hc
                    obtain ⟨v51, e_v51⟩ : ∃ z : Int32, z = (u46 + 1) := ⟨_, rfl⟩
                    replace h := h v51 e_v51
                    refine V_iinc (lo2 := [(5, .int v51), (8, .int 0), (0, .ref 51), (1, .int a1), (2, .int u43), (3, .int u44), (4, .int u45), (6, .int u47), (7, .int u48)]) 6 dX8_giveJoin_312 rfl (v := v51) (by rw [e_v51]; first | done | rfl) (by decide) rfl ?_
                    refine V_goto 25 dX8_giveJoin_315 rfl ?_
                    refine V_sub (lo2 := [(0, .ref 51), (1, .int a1), (2, .int u43), (3, .int u44), (4, .int u45), (5, .int v51)]) [2, 3, 4, 5, 6, 0] rfl ?_
                    exact ih _ _ _ _ _ h
                  · replace h := h.2 hc
                    refine V_aload_n dX8_giveJoin_258 rfl rfl ?_
                    refine V_iload_n dX8_giveJoin_259 rfl rfl ?_
                    refine V_iload_n dX8_giveJoin_260 rfl rfl ?_
                    refine V_iload dX8_giveJoin_261 rfl ?_
                    refine V_iconst (v := 0) dX8_giveJoin_263 (by decide) ?_
                    refine V_callVv (st := []) [.int a1, .int u43, .int u46, .int 0] dX8_giveJoin_264 ok_mX8_copyRow rfl ml_RX8_158 in_mX8_copyRow se_mX8_copyRow (hS.n 51 rfl) (hS.k 51 8 rfl) (by decide) rfl (Nat.le_of_ble_eq_true rfl) (by decide) (by decide) (by decide) (s_mX8_copyRow hS h) (fun I52 J9 h => ?_)
                    obtain ⟨rfl, h⟩ := h
                    refine V_aload_n dX8_giveJoin_267 rfl rfl ?_
                    refine V_getr dX8_giveJoin_268 fl_RX8_37 (hS.n 51 rfl) (hS.k 51 8 rfl) rfl (hS.r 51 12 61 rfl) ?_
                    refine V_iload_n dX8_giveJoin_271 rfl rfl ?_
                    obtain ⟨hb, h⟩ := h
                    refine V_iald dX8_giveJoin_272 (hS.n 61 rfl) (hS.k 61 9 rfl) (by rw [(hS.z 61 24 rfl)]; exact hb) ?_
                    refine V_topi (fun v53 e_v53 => ?_)
                    replace h := h v53 e_v53
                    refine V_istore (lo2 := [(9, .int v53), (8, .int 0), (0, .ref 51), (1, .int a1), (2, .int u43), (3, .int u44), (4, .int u45), (5, .int u46), (6, .int u47), (7, .int u48)]) dX8_giveJoin_273 (by decide) rfl ?_
                    refine V_sub (lo2 := [(0, .ref 51), (1, .int a1), (2, .int u43), (3, .int u44), (4, .int u45), (5, .int u46), (9, .int v53)]) [2, 3, 4, 5, 6, 7, 0] rfl ?_
                    obtain ⟨f9, h⟩ := h
                    refine swX8_giveJoin_275 hS ?_ f9 _ _ _ _ _ _ h
                    · intro u56 u57 u58 u59 I60 h
                      refine V_aload_n dX8_giveJoin_302 rfl rfl ?_
                      refine V_getr dX8_giveJoin_303 fl_RX8_51 (hS.n 51 rfl) (hS.k 51 8 rfl) rfl (hS.r 51 18 64 rfl) ?_
                      refine V_iload_n dX8_giveJoin_306 rfl rfl ?_
                      refine V_dup2 dX8_giveJoin_307 rfl rfl ?_
                      obtain ⟨hb, h⟩ := h
                      refine V_iald dX8_giveJoin_308 (hS.n 64 rfl) (hS.k 64 9 rfl) (by rw [(hS.z 64 24 rfl)]; exact hb) ?_
                      refine V_iconst (v := 1) dX8_giveJoin_309 (by decide) ?_
                      refine V_iadd dX8_giveJoin_310 ?_
                      obtain ⟨hb, h⟩ := h
                      refine V_iast dX8_giveJoin_311 (hS.n 64 rfl) (hS.k 64 9 rfl) (by rw [(hS.z 64 24 rfl)]; exact hb) ?_
                      refine V_memI (fun I61 e_I61 => ?_)
                      replace h := h I61 e_I61
                      obtain ⟨v62, e_v62⟩ : ∃ z : Int32, z = (u59 + 1) := ⟨_, rfl⟩
                      replace h := h v62 e_v62
                      refine V_iinc (lo2 := [(5, .int v62), (0, .ref 51), (1, .int a1), (2, .int u56), (3, .int u57), (4, .int u58)]) 5 dX8_giveJoin_312 rfl (v := v62) (by rw [e_v62]; first | done | rfl) (by decide) rfl ?_
                      refine V_goto 25 dX8_giveJoin_315 rfl ?_
                      refine V_sub (lo2 := [(0, .ref 51), (1, .int a1), (2, .int u56), (3, .int u57), (4, .int u58), (5, .int v62)]) [1, 2, 3, 4, 5, 0] rfl ?_
                      exact ih _ _ _ _ _ h
              · replace h := h.2 hc
                refine V_iload dX8_giveJoin_236 rfl ?_
                refine V_if_eq 258 dX8_giveJoin_238 rfl (fun hc => ?_) (fun hc => ?_)
                · replace h := h.1 hc
                  refine V_aload_n dX8_giveJoin_258 rfl rfl ?_
                  refine V_iload_n dX8_giveJoin_259 rfl rfl ?_
                  refine V_iload_n dX8_giveJoin_260 rfl rfl ?_
                  refine V_iload dX8_giveJoin_261 rfl ?_
                  refine V_iconst (v := 0) dX8_giveJoin_263 (by decide) ?_
                  refine V_callVv (st := []) [.int a1, .int u43, .int u46, .int 0] dX8_giveJoin_264 ok_mX8_copyRow rfl ml_RX8_158 in_mX8_copyRow se_mX8_copyRow (hS.n 51 rfl) (hS.k 51 8 rfl) (by decide) rfl (Nat.le_of_ble_eq_true rfl) (by decide) (by decide) (by decide) (s_mX8_copyRow hS h) (fun I63 J9 h => ?_)
                  obtain ⟨rfl, h⟩ := h
                  refine V_aload_n dX8_giveJoin_267 rfl rfl ?_
                  refine V_getr dX8_giveJoin_268 fl_RX8_37 (hS.n 51 rfl) (hS.k 51 8 rfl) rfl (hS.r 51 12 61 rfl) ?_
                  refine V_iload_n dX8_giveJoin_271 rfl rfl ?_
                  obtain ⟨hb, h⟩ := h
                  refine V_iald dX8_giveJoin_272 (hS.n 61 rfl) (hS.k 61 9 rfl) (by rw [(hS.z 61 24 rfl)]; exact hb) ?_
                  refine V_topi (fun v64 e_v64 => ?_)
                  replace h := h v64 e_v64
                  refine V_istore (lo2 := [(9, .int v64), (8, .int 0), (0, .ref 51), (1, .int a1), (2, .int u43), (3, .int u44), (4, .int u45), (5, .int u46), (6, .int u47), (7, .int u48)]) dX8_giveJoin_273 (by decide) rfl ?_
                  refine V_sub (lo2 := [(0, .ref 51), (1, .int a1), (2, .int u43), (3, .int u44), (4, .int u45), (5, .int u46), (9, .int v64)]) [2, 3, 4, 5, 6, 7, 0] rfl ?_
                  obtain ⟨f9, h⟩ := h
                  refine swX8_giveJoin_275 hS ?_ f9 _ _ _ _ _ _ h
                  · intro u65 u66 u67 u68 I69 h
                    refine V_aload_n dX8_giveJoin_302 rfl rfl ?_
                    refine V_getr dX8_giveJoin_303 fl_RX8_51 (hS.n 51 rfl) (hS.k 51 8 rfl) rfl (hS.r 51 18 64 rfl) ?_
                    refine V_iload_n dX8_giveJoin_306 rfl rfl ?_
                    refine V_dup2 dX8_giveJoin_307 rfl rfl ?_
                    obtain ⟨hb, h⟩ := h
                    refine V_iald dX8_giveJoin_308 (hS.n 64 rfl) (hS.k 64 9 rfl) (by rw [(hS.z 64 24 rfl)]; exact hb) ?_
                    refine V_iconst (v := 1) dX8_giveJoin_309 (by decide) ?_
                    refine V_iadd dX8_giveJoin_310 ?_
                    obtain ⟨hb, h⟩ := h
                    refine V_iast dX8_giveJoin_311 (hS.n 64 rfl) (hS.k 64 9 rfl) (by rw [(hS.z 64 24 rfl)]; exact hb) ?_
                    refine V_memI (fun I70 e_I70 => ?_)
                    replace h := h I70 e_I70
                    obtain ⟨v71, e_v71⟩ : ∃ z : Int32, z = (u68 + 1) := ⟨_, rfl⟩
                    replace h := h v71 e_v71
                    refine V_iinc (lo2 := [(5, .int v71), (0, .ref 51), (1, .int a1), (2, .int u65), (3, .int u66), (4, .int u67)]) 5 dX8_giveJoin_312 rfl (v := v71) (by rw [e_v71]; first | done | rfl) (by decide) rfl ?_
                    refine V_goto 25 dX8_giveJoin_315 rfl ?_
                    refine V_sub (lo2 := [(0, .ref 51), (1, .int a1), (2, .int u65), (3, .int u66), (4, .int u67), (5, .int v71)]) [1, 2, 3, 4, 5, 0] rfl ?_
                    exact ih _ _ _ _ _ h
                · replace h := h.2 hc
                  refine V_iload dX8_giveJoin_241 rfl ?_
                  refine V_iconst (v := 3) dX8_giveJoin_243 (by decide) ?_
                  refine V_icmp_le 312 dX8_giveJoin_244 rfl (fun hc => ?_) (fun hc => ?_)
                  · replace h := h.1 hc
                    obtain ⟨v72, e_v72⟩ : ∃ z : Int32, z = (u46 + 1) := ⟨_, rfl⟩
                    replace h := h v72 e_v72
                    refine V_iinc (lo2 := [(5, .int v72), (8, .int 0), (0, .ref 51), (1, .int a1), (2, .int u43), (3, .int u44), (4, .int u45), (6, .int u47), (7, .int u48)]) 6 dX8_giveJoin_312 rfl (v := v72) (by rw [e_v72]; first | done | rfl) (by decide) rfl ?_
                    refine V_goto 25 dX8_giveJoin_315 rfl ?_
                    refine V_sub (lo2 := [(0, .ref 51), (1, .int a1), (2, .int u43), (3, .int u44), (4, .int u45), (5, .int v72)]) [2, 3, 4, 5, 6, 0] rfl ?_
                    exact ih _ _ _ _ _ h
                  · replace h := h.2 hc
                    refine V_iload dX8_giveJoin_247 rfl ?_
                    refine V_aload_n dX8_giveJoin_249 rfl rfl ?_
                    refine V_getr dX8_giveJoin_250 fl_RX8_51 (hS.n 51 rfl) (hS.k 51 8 rfl) rfl (hS.r 51 18 64 rfl) ?_
                    refine V_iload_n dX8_giveJoin_253 rfl rfl ?_
                    obtain ⟨hb, h⟩ := h
                    refine V_iald dX8_giveJoin_254 (hS.n 64 rfl) (hS.k 64 9 rfl) (by rw [(hS.z 64 24 rfl)]; exact hb) ?_
                    refine V_icmp_ne 312 dX8_giveJoin_255 rfl (fun hc => ?_) (fun hc => ?_)
                    · replace h := h.1 hc
                      obtain ⟨v73, e_v73⟩ : ∃ z : Int32, z = (u46 + 1) := ⟨_, rfl⟩
                      replace h := h v73 e_v73
                      refine V_iinc (lo2 := [(5, .int v73), (8, .int 0), (0, .ref 51), (1, .int a1), (2, .int u43), (3, .int u44), (4, .int u45), (6, .int u47), (7, .int u48)]) 6 dX8_giveJoin_312 rfl (v := v73) (by rw [e_v73]; first | done | rfl) (by decide) rfl ?_
                      refine V_goto 25 dX8_giveJoin_315 rfl ?_
                      refine V_sub (lo2 := [(0, .ref 51), (1, .int a1), (2, .int u43), (3, .int u44), (4, .int u45), (5, .int v73)]) [2, 3, 4, 5, 6, 0] rfl ?_
                      exact ih _ _ _ _ _ h
                    · replace h := h.2 hc
                      refine V_aload_n dX8_giveJoin_258 rfl rfl ?_
                      refine V_iload_n dX8_giveJoin_259 rfl rfl ?_
                      refine V_iload_n dX8_giveJoin_260 rfl rfl ?_
                      refine V_iload dX8_giveJoin_261 rfl ?_
                      refine V_iconst (v := 0) dX8_giveJoin_263 (by decide) ?_
                      refine V_callVv (st := []) [.int a1, .int u43, .int u46, .int 0] dX8_giveJoin_264 ok_mX8_copyRow rfl ml_RX8_158 in_mX8_copyRow se_mX8_copyRow (hS.n 51 rfl) (hS.k 51 8 rfl) (by decide) rfl (Nat.le_of_ble_eq_true rfl) (by decide) (by decide) (by decide) (s_mX8_copyRow hS h) (fun I74 J9 h => ?_)
                      obtain ⟨rfl, h⟩ := h
                      refine V_aload_n dX8_giveJoin_267 rfl rfl ?_
                      refine V_getr dX8_giveJoin_268 fl_RX8_37 (hS.n 51 rfl) (hS.k 51 8 rfl) rfl (hS.r 51 12 61 rfl) ?_
                      refine V_iload_n dX8_giveJoin_271 rfl rfl ?_
                      obtain ⟨hb, h⟩ := h
                      refine V_iald dX8_giveJoin_272 (hS.n 61 rfl) (hS.k 61 9 rfl) (by rw [(hS.z 61 24 rfl)]; exact hb) ?_
                      refine V_topi (fun v75 e_v75 => ?_)
                      replace h := h v75 e_v75
                      refine V_istore (lo2 := [(9, .int v75), (8, .int 0), (0, .ref 51), (1, .int a1), (2, .int u43), (3, .int u44), (4, .int u45), (5, .int u46), (6, .int u47), (7, .int u48)]) dX8_giveJoin_273 (by decide) rfl ?_
                      refine V_sub (lo2 := [(0, .ref 51), (1, .int a1), (2, .int u43), (3, .int u44), (4, .int u45), (5, .int u46), (9, .int v75)]) [2, 3, 4, 5, 6, 7, 0] rfl ?_
                      obtain ⟨f9, h⟩ := h
                      refine swX8_giveJoin_275 hS ?_ f9 _ _ _ _ _ _ h
                      · intro u76 u77 u78 u79 I80 h
                        refine V_aload_n dX8_giveJoin_302 rfl rfl ?_
                        refine V_getr dX8_giveJoin_303 fl_RX8_51 (hS.n 51 rfl) (hS.k 51 8 rfl) rfl (hS.r 51 18 64 rfl) ?_
                        refine V_iload_n dX8_giveJoin_306 rfl rfl ?_
                        refine V_dup2 dX8_giveJoin_307 rfl rfl ?_
                        obtain ⟨hb, h⟩ := h
                        refine V_iald dX8_giveJoin_308 (hS.n 64 rfl) (hS.k 64 9 rfl) (by rw [(hS.z 64 24 rfl)]; exact hb) ?_
                        refine V_iconst (v := 1) dX8_giveJoin_309 (by decide) ?_
                        refine V_iadd dX8_giveJoin_310 ?_
                        obtain ⟨hb, h⟩ := h
                        refine V_iast dX8_giveJoin_311 (hS.n 64 rfl) (hS.k 64 9 rfl) (by rw [(hS.z 64 24 rfl)]; exact hb) ?_
                        refine V_memI (fun I81 e_I81 => ?_)
                        replace h := h I81 e_I81
                        obtain ⟨v82, e_v82⟩ : ∃ z : Int32, z = (u79 + 1) := ⟨_, rfl⟩
                        replace h := h v82 e_v82
                        refine V_iinc (lo2 := [(5, .int v82), (0, .ref 51), (1, .int a1), (2, .int u76), (3, .int u77), (4, .int u78)]) 5 dX8_giveJoin_312 rfl (v := v82) (by rw [e_v82]; first | done | rfl) (by decide) rfl ?_
                        refine V_goto 25 dX8_giveJoin_315 rfl ?_
                        refine V_sub (lo2 := [(0, .ref 51), (1, .int a1), (2, .int u76), (3, .int u77), (4, .int u78), (5, .int v82)]) [1, 2, 3, 4, 5, 0] rfl ?_
                        exact ih _ _ _ _ _ h
            · replace h := h.2 hc
              refine V_iload dX8_giveJoin_225 rfl ?_
              refine V_if_gt 258 dX8_giveJoin_227 rfl (fun hc => ?_) (fun hc => ?_)
              · replace h := h.1 hc
                refine V_aload_n dX8_giveJoin_258 rfl rfl ?_
                refine V_iload_n dX8_giveJoin_259 rfl rfl ?_
                refine V_iload_n dX8_giveJoin_260 rfl rfl ?_
                refine V_iload dX8_giveJoin_261 rfl ?_
                refine V_iconst (v := 0) dX8_giveJoin_263 (by decide) ?_
                refine V_callVv (st := []) [.int a1, .int u43, .int u46, .int 0] dX8_giveJoin_264 ok_mX8_copyRow rfl ml_RX8_158 in_mX8_copyRow se_mX8_copyRow (hS.n 51 rfl) (hS.k 51 8 rfl) (by decide) rfl (Nat.le_of_ble_eq_true rfl) (by decide) (by decide) (by decide) (s_mX8_copyRow hS h) (fun I83 J9 h => ?_)
                obtain ⟨rfl, h⟩ := h
                refine V_aload_n dX8_giveJoin_267 rfl rfl ?_
                refine V_getr dX8_giveJoin_268 fl_RX8_37 (hS.n 51 rfl) (hS.k 51 8 rfl) rfl (hS.r 51 12 61 rfl) ?_
                refine V_iload_n dX8_giveJoin_271 rfl rfl ?_
                obtain ⟨hb, h⟩ := h
                refine V_iald dX8_giveJoin_272 (hS.n 61 rfl) (hS.k 61 9 rfl) (by rw [(hS.z 61 24 rfl)]; exact hb) ?_
                refine V_topi (fun v84 e_v84 => ?_)
                replace h := h v84 e_v84
                refine V_istore (lo2 := [(9, .int v84), (8, .int 0), (0, .ref 51), (1, .int a1), (2, .int u43), (3, .int u44), (4, .int u45), (5, .int u46), (6, .int u47), (7, .int u48)]) dX8_giveJoin_273 (by decide) rfl ?_
                refine V_sub (lo2 := [(0, .ref 51), (1, .int a1), (2, .int u43), (3, .int u44), (4, .int u45), (5, .int u46), (9, .int v84)]) [2, 3, 4, 5, 6, 7, 0] rfl ?_
                obtain ⟨f9, h⟩ := h
                refine swX8_giveJoin_275 hS ?_ f9 _ _ _ _ _ _ h
                · intro u85 u86 u87 u88 I89 h
                  refine V_aload_n dX8_giveJoin_302 rfl rfl ?_
                  refine V_getr dX8_giveJoin_303 fl_RX8_51 (hS.n 51 rfl) (hS.k 51 8 rfl) rfl (hS.r 51 18 64 rfl) ?_
                  refine V_iload_n dX8_giveJoin_306 rfl rfl ?_
                  refine V_dup2 dX8_giveJoin_307 rfl rfl ?_
                  obtain ⟨hb, h⟩ := h
                  refine V_iald dX8_giveJoin_308 (hS.n 64 rfl) (hS.k 64 9 rfl) (by rw [(hS.z 64 24 rfl)]; exact hb) ?_
                  refine V_iconst (v := 1) dX8_giveJoin_309 (by decide) ?_
                  refine V_iadd dX8_giveJoin_310 ?_
                  obtain ⟨hb, h⟩ := h
                  refine V_iast dX8_giveJoin_311 (hS.n 64 rfl) (hS.k 64 9 rfl) (by rw [(hS.z 64 24 rfl)]; exact hb) ?_
                  refine V_memI (fun I90 e_I90 => ?_)
                  replace h := h I90 e_I90
                  obtain ⟨v91, e_v91⟩ : ∃ z : Int32, z = (u88 + 1) := ⟨_, rfl⟩
                  replace h := h v91 e_v91
                  refine V_iinc (lo2 := [(5, .int v91), (0, .ref 51), (1, .int a1), (2, .int u85), (3, .int u86), (4, .int u87)]) 5 dX8_giveJoin_312 rfl (v := v91) (by rw [e_v91]; first | done | rfl) (by decide) rfl ?_
                  refine V_goto 25 dX8_giveJoin_315 rfl ?_
                  refine V_sub (lo2 := [(0, .ref 51), (1, .int a1), (2, .int u85), (3, .int u86), (4, .int u87), (5, .int v91)]) [1, 2, 3, 4, 5, 0] rfl ?_
                  exact ih _ _ _ _ _ h
              · replace h := h.2 hc
                refine V_iload dX8_giveJoin_230 rfl ?_
                refine V_iconst (v := 3) dX8_giveJoin_232 (by decide) ?_
                refine V_icmp_ne 241 dX8_giveJoin_233 rfl (fun hc => ?_) (fun hc => ?_)
                · replace h := h.1 hc
                  refine V_iload dX8_giveJoin_241 rfl ?_
                  refine V_iconst (v := 3) dX8_giveJoin_243 (by decide) ?_
                  refine V_icmp_le 312 dX8_giveJoin_244 rfl (fun hc => ?_) (fun hc => ?_)
                  · replace h := h.1 hc
                    obtain ⟨v92, e_v92⟩ : ∃ z : Int32, z = (u46 + 1) := ⟨_, rfl⟩
                    replace h := h v92 e_v92
                    refine V_iinc (lo2 := [(5, .int v92), (8, .int 0), (0, .ref 51), (1, .int a1), (2, .int u43), (3, .int u44), (4, .int u45), (6, .int u47), (7, .int u48)]) 6 dX8_giveJoin_312 rfl (v := v92) (by rw [e_v92]; first | done | rfl) (by decide) rfl ?_
                    refine V_goto 25 dX8_giveJoin_315 rfl ?_
                    refine V_sub (lo2 := [(0, .ref 51), (1, .int a1), (2, .int u43), (3, .int u44), (4, .int u45), (5, .int v92)]) [2, 3, 4, 5, 6, 0] rfl ?_
                    exact ih _ _ _ _ _ h
                  · replace h := h.2 hc
                    refine V_iload dX8_giveJoin_247 rfl ?_
                    refine V_aload_n dX8_giveJoin_249 rfl rfl ?_
                    refine V_getr dX8_giveJoin_250 fl_RX8_51 (hS.n 51 rfl) (hS.k 51 8 rfl) rfl (hS.r 51 18 64 rfl) ?_
                    refine V_iload_n dX8_giveJoin_253 rfl rfl ?_
                    obtain ⟨hb, h⟩ := h
                    refine V_iald dX8_giveJoin_254 (hS.n 64 rfl) (hS.k 64 9 rfl) (by rw [(hS.z 64 24 rfl)]; exact hb) ?_
                    refine V_icmp_ne 312 dX8_giveJoin_255 rfl (fun hc => ?_) (fun hc => ?_)
                    · replace h := h.1 hc
                      obtain ⟨v93, e_v93⟩ : ∃ z : Int32, z = (u46 + 1) := ⟨_, rfl⟩
                      replace h := h v93 e_v93
                      refine V_iinc (lo2 := [(5, .int v93), (8, .int 0), (0, .ref 51), (1, .int a1), (2, .int u43), (3, .int u44), (4, .int u45), (6, .int u47), (7, .int u48)]) 6 dX8_giveJoin_312 rfl (v := v93) (by rw [e_v93]; first | done | rfl) (by decide) rfl ?_
                      refine V_goto 25 dX8_giveJoin_315 rfl ?_
                      refine V_sub (lo2 := [(0, .ref 51), (1, .int a1), (2, .int u43), (3, .int u44), (4, .int u45), (5, .int v93)]) [2, 3, 4, 5, 6, 0] rfl ?_
                      exact ih _ _ _ _ _ h
                    · replace h := h.2 hc
                      refine V_aload_n dX8_giveJoin_258 rfl rfl ?_
                      refine V_iload_n dX8_giveJoin_259 rfl rfl ?_
                      refine V_iload_n dX8_giveJoin_260 rfl rfl ?_
                      refine V_iload dX8_giveJoin_261 rfl ?_
                      refine V_iconst (v := 0) dX8_giveJoin_263 (by decide) ?_
                      refine V_callVv (st := []) [.int a1, .int u43, .int u46, .int 0] dX8_giveJoin_264 ok_mX8_copyRow rfl ml_RX8_158 in_mX8_copyRow se_mX8_copyRow (hS.n 51 rfl) (hS.k 51 8 rfl) (by decide) rfl (Nat.le_of_ble_eq_true rfl) (by decide) (by decide) (by decide) (s_mX8_copyRow hS h) (fun I94 J9 h => ?_)
                      obtain ⟨rfl, h⟩ := h
                      refine V_aload_n dX8_giveJoin_267 rfl rfl ?_
                      refine V_getr dX8_giveJoin_268 fl_RX8_37 (hS.n 51 rfl) (hS.k 51 8 rfl) rfl (hS.r 51 12 61 rfl) ?_
                      refine V_iload_n dX8_giveJoin_271 rfl rfl ?_
                      obtain ⟨hb, h⟩ := h
                      refine V_iald dX8_giveJoin_272 (hS.n 61 rfl) (hS.k 61 9 rfl) (by rw [(hS.z 61 24 rfl)]; exact hb) ?_
                      refine V_topi (fun v95 e_v95 => ?_)
                      replace h := h v95 e_v95
                      refine V_istore (lo2 := [(9, .int v95), (8, .int 0), (0, .ref 51), (1, .int a1), (2, .int u43), (3, .int u44), (4, .int u45), (5, .int u46), (6, .int u47), (7, .int u48)]) dX8_giveJoin_273 (by decide) rfl ?_
                      refine V_sub (lo2 := [(0, .ref 51), (1, .int a1), (2, .int u43), (3, .int u44), (4, .int u45), (5, .int u46), (9, .int v95)]) [2, 3, 4, 5, 6, 7, 0] rfl ?_
                      obtain ⟨f9, h⟩ := h
                      refine swX8_giveJoin_275 hS ?_ f9 _ _ _ _ _ _ h
                      · intro u96 u97 u98 u99 I100 h
                        refine V_aload_n dX8_giveJoin_302 rfl rfl ?_
                        refine V_getr dX8_giveJoin_303 fl_RX8_51 (hS.n 51 rfl) (hS.k 51 8 rfl) rfl (hS.r 51 18 64 rfl) ?_
                        refine V_iload_n dX8_giveJoin_306 rfl rfl ?_
                        refine V_dup2 dX8_giveJoin_307 rfl rfl ?_
                        obtain ⟨hb, h⟩ := h
                        refine V_iald dX8_giveJoin_308 (hS.n 64 rfl) (hS.k 64 9 rfl) (by rw [(hS.z 64 24 rfl)]; exact hb) ?_
                        refine V_iconst (v := 1) dX8_giveJoin_309 (by decide) ?_
                        refine V_iadd dX8_giveJoin_310 ?_
                        obtain ⟨hb, h⟩ := h
                        refine V_iast dX8_giveJoin_311 (hS.n 64 rfl) (hS.k 64 9 rfl) (by rw [(hS.z 64 24 rfl)]; exact hb) ?_
                        refine V_memI (fun I101 e_I101 => ?_)
                        replace h := h I101 e_I101
                        obtain ⟨v102, e_v102⟩ : ∃ z : Int32, z = (u99 + 1) := ⟨_, rfl⟩
                        replace h := h v102 e_v102
                        refine V_iinc (lo2 := [(5, .int v102), (0, .ref 51), (1, .int a1), (2, .int u96), (3, .int u97), (4, .int u98)]) 5 dX8_giveJoin_312 rfl (v := v102) (by rw [e_v102]; first | done | rfl) (by decide) rfl ?_
                        refine V_goto 25 dX8_giveJoin_315 rfl ?_
                        refine V_sub (lo2 := [(0, .ref 51), (1, .int a1), (2, .int u96), (3, .int u97), (4, .int u98), (5, .int v102)]) [1, 2, 3, 4, 5, 0] rfl ?_
                        exact ih _ _ _ _ _ h
                · replace h := h.2 hc
                  refine V_iload dX8_giveJoin_236 rfl ?_
                  refine V_if_eq 258 dX8_giveJoin_238 rfl (fun hc => ?_) (fun hc => ?_)
                  · replace h := h.1 hc
                    refine V_aload_n dX8_giveJoin_258 rfl rfl ?_
                    refine V_iload_n dX8_giveJoin_259 rfl rfl ?_
                    refine V_iload_n dX8_giveJoin_260 rfl rfl ?_
                    refine V_iload dX8_giveJoin_261 rfl ?_
                    refine V_iconst (v := 0) dX8_giveJoin_263 (by decide) ?_
                    refine V_callVv (st := []) [.int a1, .int u43, .int u46, .int 0] dX8_giveJoin_264 ok_mX8_copyRow rfl ml_RX8_158 in_mX8_copyRow se_mX8_copyRow (hS.n 51 rfl) (hS.k 51 8 rfl) (by decide) rfl (Nat.le_of_ble_eq_true rfl) (by decide) (by decide) (by decide) (s_mX8_copyRow hS h) (fun I103 J9 h => ?_)
                    obtain ⟨rfl, h⟩ := h
                    refine V_aload_n dX8_giveJoin_267 rfl rfl ?_
                    refine V_getr dX8_giveJoin_268 fl_RX8_37 (hS.n 51 rfl) (hS.k 51 8 rfl) rfl (hS.r 51 12 61 rfl) ?_
                    refine V_iload_n dX8_giveJoin_271 rfl rfl ?_
                    obtain ⟨hb, h⟩ := h
                    refine V_iald dX8_giveJoin_272 (hS.n 61 rfl) (hS.k 61 9 rfl) (by rw [(hS.z 61 24 rfl)]; exact hb) ?_
                    refine V_topi (fun v104 e_v104 => ?_)
                    replace h := h v104 e_v104
                    refine V_istore (lo2 := [(9, .int v104), (8, .int 0), (0, .ref 51), (1, .int a1), (2, .int u43), (3, .int u44), (4, .int u45), (5, .int u46), (6, .int u47), (7, .int u48)]) dX8_giveJoin_273 (by decide) rfl ?_
                    refine V_sub (lo2 := [(0, .ref 51), (1, .int a1), (2, .int u43), (3, .int u44), (4, .int u45), (5, .int u46), (9, .int v104)]) [2, 3, 4, 5, 6, 7, 0] rfl ?_
                    obtain ⟨f9, h⟩ := h
                    refine swX8_giveJoin_275 hS ?_ f9 _ _ _ _ _ _ h
                    · intro u105 u106 u107 u108 I109 h
                      refine V_aload_n dX8_giveJoin_302 rfl rfl ?_
                      refine V_getr dX8_giveJoin_303 fl_RX8_51 (hS.n 51 rfl) (hS.k 51 8 rfl) rfl (hS.r 51 18 64 rfl) ?_
                      refine V_iload_n dX8_giveJoin_306 rfl rfl ?_
                      refine V_dup2 dX8_giveJoin_307 rfl rfl ?_
                      obtain ⟨hb, h⟩ := h
                      refine V_iald dX8_giveJoin_308 (hS.n 64 rfl) (hS.k 64 9 rfl) (by rw [(hS.z 64 24 rfl)]; exact hb) ?_
                      refine V_iconst (v := 1) dX8_giveJoin_309 (by decide) ?_
                      refine V_iadd dX8_giveJoin_310 ?_
                      obtain ⟨hb, h⟩ := h
                      refine V_iast dX8_giveJoin_311 (hS.n 64 rfl) (hS.k 64 9 rfl) (by rw [(hS.z 64 24 rfl)]; exact hb) ?_
                      refine V_memI (fun I110 e_I110 => ?_)
                      replace h := h I110 e_I110
                      obtain ⟨v111, e_v111⟩ : ∃ z : Int32, z = (u108 + 1) := ⟨_, rfl⟩
                      replace h := h v111 e_v111
                      refine V_iinc (lo2 := [(5, .int v111), (0, .ref 51), (1, .int a1), (2, .int u105), (3, .int u106), (4, .int u107)]) 5 dX8_giveJoin_312 rfl (v := v111) (by rw [e_v111]; first | done | rfl) (by decide) rfl ?_
                      refine V_goto 25 dX8_giveJoin_315 rfl ?_
                      refine V_sub (lo2 := [(0, .ref 51), (1, .int a1), (2, .int u105), (3, .int u106), (4, .int u107), (5, .int v111)]) [1, 2, 3, 4, 5, 0] rfl ?_
                      exact ih _ _ _ _ _ h
                  · replace h := h.2 hc
                    refine V_iload dX8_giveJoin_241 rfl ?_
                    refine V_iconst (v := 3) dX8_giveJoin_243 (by decide) ?_
                    refine V_icmp_le 312 dX8_giveJoin_244 rfl (fun hc => ?_) (fun hc => ?_)
                    · replace h := h.1 hc
                      obtain ⟨v112, e_v112⟩ : ∃ z : Int32, z = (u46 + 1) := ⟨_, rfl⟩
                      replace h := h v112 e_v112
                      refine V_iinc (lo2 := [(5, .int v112), (8, .int 0), (0, .ref 51), (1, .int a1), (2, .int u43), (3, .int u44), (4, .int u45), (6, .int u47), (7, .int u48)]) 6 dX8_giveJoin_312 rfl (v := v112) (by rw [e_v112]; first | done | rfl) (by decide) rfl ?_
                      refine V_goto 25 dX8_giveJoin_315 rfl ?_
                      refine V_sub (lo2 := [(0, .ref 51), (1, .int a1), (2, .int u43), (3, .int u44), (4, .int u45), (5, .int v112)]) [2, 3, 4, 5, 6, 0] rfl ?_
                      exact ih _ _ _ _ _ h
                    · replace h := h.2 hc
                      refine V_iload dX8_giveJoin_247 rfl ?_
                      refine V_aload_n dX8_giveJoin_249 rfl rfl ?_
                      refine V_getr dX8_giveJoin_250 fl_RX8_51 (hS.n 51 rfl) (hS.k 51 8 rfl) rfl (hS.r 51 18 64 rfl) ?_
                      refine V_iload_n dX8_giveJoin_253 rfl rfl ?_
                      obtain ⟨hb, h⟩ := h
                      refine V_iald dX8_giveJoin_254 (hS.n 64 rfl) (hS.k 64 9 rfl) (by rw [(hS.z 64 24 rfl)]; exact hb) ?_
                      refine V_icmp_ne 312 dX8_giveJoin_255 rfl (fun hc => ?_) (fun hc => ?_)
                      · replace h := h.1 hc
                        obtain ⟨v113, e_v113⟩ : ∃ z : Int32, z = (u46 + 1) := ⟨_, rfl⟩
                        replace h := h v113 e_v113
                        refine V_iinc (lo2 := [(5, .int v113), (8, .int 0), (0, .ref 51), (1, .int a1), (2, .int u43), (3, .int u44), (4, .int u45), (6, .int u47), (7, .int u48)]) 6 dX8_giveJoin_312 rfl (v := v113) (by rw [e_v113]; first | done | rfl) (by decide) rfl ?_
                        refine V_goto 25 dX8_giveJoin_315 rfl ?_
                        refine V_sub (lo2 := [(0, .ref 51), (1, .int a1), (2, .int u43), (3, .int u44), (4, .int u45), (5, .int v113)]) [2, 3, 4, 5, 6, 0] rfl ?_
                        exact ih _ _ _ _ _ h
                      · replace h := h.2 hc
                        refine V_aload_n dX8_giveJoin_258 rfl rfl ?_
                        refine V_iload_n dX8_giveJoin_259 rfl rfl ?_
                        refine V_iload_n dX8_giveJoin_260 rfl rfl ?_
                        refine V_iload dX8_giveJoin_261 rfl ?_
                        refine V_iconst (v := 0) dX8_giveJoin_263 (by decide) ?_
                        refine V_callVv (st := []) [.int a1, .int u43, .int u46, .int 0] dX8_giveJoin_264 ok_mX8_copyRow rfl ml_RX8_158 in_mX8_copyRow se_mX8_copyRow (hS.n 51 rfl) (hS.k 51 8 rfl) (by decide) rfl (Nat.le_of_ble_eq_true rfl) (by decide) (by decide) (by decide) (s_mX8_copyRow hS h) (fun I114 J9 h => ?_)
                        obtain ⟨rfl, h⟩ := h
                        refine V_aload_n dX8_giveJoin_267 rfl rfl ?_
                        refine V_getr dX8_giveJoin_268 fl_RX8_37 (hS.n 51 rfl) (hS.k 51 8 rfl) rfl (hS.r 51 12 61 rfl) ?_
                        refine V_iload_n dX8_giveJoin_271 rfl rfl ?_
                        obtain ⟨hb, h⟩ := h
                        refine V_iald dX8_giveJoin_272 (hS.n 61 rfl) (hS.k 61 9 rfl) (by rw [(hS.z 61 24 rfl)]; exact hb) ?_
                        refine V_topi (fun v115 e_v115 => ?_)
                        replace h := h v115 e_v115
                        refine V_istore (lo2 := [(9, .int v115), (8, .int 0), (0, .ref 51), (1, .int a1), (2, .int u43), (3, .int u44), (4, .int u45), (5, .int u46), (6, .int u47), (7, .int u48)]) dX8_giveJoin_273 (by decide) rfl ?_
                        refine V_sub (lo2 := [(0, .ref 51), (1, .int a1), (2, .int u43), (3, .int u44), (4, .int u45), (5, .int u46), (9, .int v115)]) [2, 3, 4, 5, 6, 7, 0] rfl ?_
                        obtain ⟨f9, h⟩ := h
                        refine swX8_giveJoin_275 hS ?_ f9 _ _ _ _ _ _ h
                        · intro u116 u117 u118 u119 I120 h
                          refine V_aload_n dX8_giveJoin_302 rfl rfl ?_
                          refine V_getr dX8_giveJoin_303 fl_RX8_51 (hS.n 51 rfl) (hS.k 51 8 rfl) rfl (hS.r 51 18 64 rfl) ?_
                          refine V_iload_n dX8_giveJoin_306 rfl rfl ?_
                          refine V_dup2 dX8_giveJoin_307 rfl rfl ?_
                          obtain ⟨hb, h⟩ := h
                          refine V_iald dX8_giveJoin_308 (hS.n 64 rfl) (hS.k 64 9 rfl) (by rw [(hS.z 64 24 rfl)]; exact hb) ?_
                          refine V_iconst (v := 1) dX8_giveJoin_309 (by decide) ?_
                          refine V_iadd dX8_giveJoin_310 ?_
                          obtain ⟨hb, h⟩ := h
                          refine V_iast dX8_giveJoin_311 (hS.n 64 rfl) (hS.k 64 9 rfl) (by rw [(hS.z 64 24 rfl)]; exact hb) ?_
                          refine V_memI (fun I121 e_I121 => ?_)
                          replace h := h I121 e_I121
                          obtain ⟨v122, e_v122⟩ : ∃ z : Int32, z = (u119 + 1) := ⟨_, rfl⟩
                          replace h := h v122 e_v122
                          refine V_iinc (lo2 := [(5, .int v122), (0, .ref 51), (1, .int a1), (2, .int u116), (3, .int u117), (4, .int u118)]) 5 dX8_giveJoin_312 rfl (v := v122) (by rw [e_v122]; first | done | rfl) (by decide) rfl ?_
                          refine V_goto 25 dX8_giveJoin_315 rfl ?_
                          refine V_sub (lo2 := [(0, .ref 51), (1, .int a1), (2, .int u116), (3, .int u117), (4, .int u118), (5, .int v122)]) [1, 2, 3, 4, 5, 0] rfl ?_
                          exact ih _ _ _ _ _ h
        · replace h := h.2 hc
          refine V_iload dX8_giveJoin_202 rfl ?_
          refine V_if_ne 211 dX8_giveJoin_204 rfl (fun hc => ?_) (fun hc => ?_)
          · replace h := h.1 hc
            refine V_iconst (v := 0) dX8_giveJoin_211 (by decide) ?_
            refine V_istore (lo2 := [(8, .int 0), (0, .ref 51), (1, .int a1), (2, .int u43), (3, .int u44), (4, .int u45), (5, .int u46), (6, .int u47), (7, .int u48)]) dX8_giveJoin_212 (by decide) rfl ?_
            refine V_iload dX8_giveJoin_214 rfl ?_
            refine V_if_ne 258 dX8_giveJoin_216 rfl (fun hc => ?_) (fun hc => ?_)
            · first | exact absurd hc (by decide) | exact absurd (by decide) hc
            · refine V_iload dX8_giveJoin_219 rfl ?_
              refine V_iconst (v := 2) dX8_giveJoin_221 (by decide) ?_
              refine V_icmp_ne 230 dX8_giveJoin_222 rfl (fun hc => ?_) (fun hc => ?_)
              · replace h := h.1 hc
                refine V_iload dX8_giveJoin_230 rfl ?_
                refine V_iconst (v := 3) dX8_giveJoin_232 (by decide) ?_
                refine V_icmp_ne 241 dX8_giveJoin_233 rfl (fun hc => ?_) (fun hc => ?_)
                · replace h := h.1 hc
                  refine V_iload dX8_giveJoin_241 rfl ?_
                  refine V_iconst (v := 3) dX8_giveJoin_243 (by decide) ?_
                  refine V_icmp_le 312 dX8_giveJoin_244 rfl (fun hc => ?_) (fun hc => ?_)
                  · replace h := h.1 hc
                    obtain ⟨v123, e_v123⟩ : ∃ z : Int32, z = (u46 + 1) := ⟨_, rfl⟩
                    replace h := h v123 e_v123
                    refine V_iinc (lo2 := [(5, .int v123), (8, .int 0), (0, .ref 51), (1, .int a1), (2, .int u43), (3, .int u44), (4, .int u45), (6, .int u47), (7, .int u48)]) 6 dX8_giveJoin_312 rfl (v := v123) (by rw [e_v123]; first | done | rfl) (by decide) rfl ?_
                    refine V_goto 25 dX8_giveJoin_315 rfl ?_
                    refine V_sub (lo2 := [(0, .ref 51), (1, .int a1), (2, .int u43), (3, .int u44), (4, .int u45), (5, .int v123)]) [2, 3, 4, 5, 6, 0] rfl ?_
                    exact ih _ _ _ _ _ h
                  · replace h := h.2 hc
                    refine V_iload dX8_giveJoin_247 rfl ?_
                    refine V_aload_n dX8_giveJoin_249 rfl rfl ?_
                    refine V_getr dX8_giveJoin_250 fl_RX8_51 (hS.n 51 rfl) (hS.k 51 8 rfl) rfl (hS.r 51 18 64 rfl) ?_
                    refine V_iload_n dX8_giveJoin_253 rfl rfl ?_
                    obtain ⟨hb, h⟩ := h
                    refine V_iald dX8_giveJoin_254 (hS.n 64 rfl) (hS.k 64 9 rfl) (by rw [(hS.z 64 24 rfl)]; exact hb) ?_
                    refine V_icmp_ne 312 dX8_giveJoin_255 rfl (fun hc => ?_) (fun hc => ?_)
                    · replace h := h.1 hc
                      obtain ⟨v124, e_v124⟩ : ∃ z : Int32, z = (u46 + 1) := ⟨_, rfl⟩
                      replace h := h v124 e_v124
                      refine V_iinc (lo2 := [(5, .int v124), (8, .int 0), (0, .ref 51), (1, .int a1), (2, .int u43), (3, .int u44), (4, .int u45), (6, .int u47), (7, .int u48)]) 6 dX8_giveJoin_312 rfl (v := v124) (by rw [e_v124]; first | done | rfl) (by decide) rfl ?_
                      refine V_goto 25 dX8_giveJoin_315 rfl ?_
                      refine V_sub (lo2 := [(0, .ref 51), (1, .int a1), (2, .int u43), (3, .int u44), (4, .int u45), (5, .int v124)]) [2, 3, 4, 5, 6, 0] rfl ?_
                      exact ih _ _ _ _ _ h
                    · replace h := h.2 hc
                      refine V_aload_n dX8_giveJoin_258 rfl rfl ?_
                      refine V_iload_n dX8_giveJoin_259 rfl rfl ?_
                      refine V_iload_n dX8_giveJoin_260 rfl rfl ?_
                      refine V_iload dX8_giveJoin_261 rfl ?_
                      refine V_iconst (v := 0) dX8_giveJoin_263 (by decide) ?_
                      refine V_callVv (st := []) [.int a1, .int u43, .int u46, .int 0] dX8_giveJoin_264 ok_mX8_copyRow rfl ml_RX8_158 in_mX8_copyRow se_mX8_copyRow (hS.n 51 rfl) (hS.k 51 8 rfl) (by decide) rfl (Nat.le_of_ble_eq_true rfl) (by decide) (by decide) (by decide) (s_mX8_copyRow hS h) (fun I125 J9 h => ?_)
                      obtain ⟨rfl, h⟩ := h
                      refine V_aload_n dX8_giveJoin_267 rfl rfl ?_
                      refine V_getr dX8_giveJoin_268 fl_RX8_37 (hS.n 51 rfl) (hS.k 51 8 rfl) rfl (hS.r 51 12 61 rfl) ?_
                      refine V_iload_n dX8_giveJoin_271 rfl rfl ?_
                      obtain ⟨hb, h⟩ := h
                      refine V_iald dX8_giveJoin_272 (hS.n 61 rfl) (hS.k 61 9 rfl) (by rw [(hS.z 61 24 rfl)]; exact hb) ?_
                      refine V_topi (fun v126 e_v126 => ?_)
                      replace h := h v126 e_v126
                      refine V_istore (lo2 := [(9, .int v126), (8, .int 0), (0, .ref 51), (1, .int a1), (2, .int u43), (3, .int u44), (4, .int u45), (5, .int u46), (6, .int u47), (7, .int u48)]) dX8_giveJoin_273 (by decide) rfl ?_
                      refine V_sub (lo2 := [(0, .ref 51), (1, .int a1), (2, .int u43), (3, .int u44), (4, .int u45), (5, .int u46), (9, .int v126)]) [2, 3, 4, 5, 6, 7, 0] rfl ?_
                      obtain ⟨f9, h⟩ := h
                      refine swX8_giveJoin_275 hS ?_ f9 _ _ _ _ _ _ h
                      · intro u127 u128 u129 u130 I131 h
                        refine V_aload_n dX8_giveJoin_302 rfl rfl ?_
                        refine V_getr dX8_giveJoin_303 fl_RX8_51 (hS.n 51 rfl) (hS.k 51 8 rfl) rfl (hS.r 51 18 64 rfl) ?_
                        refine V_iload_n dX8_giveJoin_306 rfl rfl ?_
                        refine V_dup2 dX8_giveJoin_307 rfl rfl ?_
                        obtain ⟨hb, h⟩ := h
                        refine V_iald dX8_giveJoin_308 (hS.n 64 rfl) (hS.k 64 9 rfl) (by rw [(hS.z 64 24 rfl)]; exact hb) ?_
                        refine V_iconst (v := 1) dX8_giveJoin_309 (by decide) ?_
                        refine V_iadd dX8_giveJoin_310 ?_
                        obtain ⟨hb, h⟩ := h
                        refine V_iast dX8_giveJoin_311 (hS.n 64 rfl) (hS.k 64 9 rfl) (by rw [(hS.z 64 24 rfl)]; exact hb) ?_
                        refine V_memI (fun I132 e_I132 => ?_)
                        replace h := h I132 e_I132
                        obtain ⟨v133, e_v133⟩ : ∃ z : Int32, z = (u130 + 1) := ⟨_, rfl⟩
                        replace h := h v133 e_v133
                        refine V_iinc (lo2 := [(5, .int v133), (0, .ref 51), (1, .int a1), (2, .int u127), (3, .int u128), (4, .int u129)]) 5 dX8_giveJoin_312 rfl (v := v133) (by rw [e_v133]; first | done | rfl) (by decide) rfl ?_
                        refine V_goto 25 dX8_giveJoin_315 rfl ?_
                        refine V_sub (lo2 := [(0, .ref 51), (1, .int a1), (2, .int u127), (3, .int u128), (4, .int u129), (5, .int v133)]) [1, 2, 3, 4, 5, 0] rfl ?_
                        exact ih _ _ _ _ _ h
                · replace h := h.2 hc
                  refine V_iload dX8_giveJoin_236 rfl ?_
                  refine V_if_eq 258 dX8_giveJoin_238 rfl (fun hc => ?_) (fun hc => ?_)
                  · replace h := h.1 hc
                    refine V_aload_n dX8_giveJoin_258 rfl rfl ?_
                    refine V_iload_n dX8_giveJoin_259 rfl rfl ?_
                    refine V_iload_n dX8_giveJoin_260 rfl rfl ?_
                    refine V_iload dX8_giveJoin_261 rfl ?_
                    refine V_iconst (v := 0) dX8_giveJoin_263 (by decide) ?_
                    refine V_callVv (st := []) [.int a1, .int u43, .int u46, .int 0] dX8_giveJoin_264 ok_mX8_copyRow rfl ml_RX8_158 in_mX8_copyRow se_mX8_copyRow (hS.n 51 rfl) (hS.k 51 8 rfl) (by decide) rfl (Nat.le_of_ble_eq_true rfl) (by decide) (by decide) (by decide) (s_mX8_copyRow hS h) (fun I134 J9 h => ?_)
                    obtain ⟨rfl, h⟩ := h
                    refine V_aload_n dX8_giveJoin_267 rfl rfl ?_
                    refine V_getr dX8_giveJoin_268 fl_RX8_37 (hS.n 51 rfl) (hS.k 51 8 rfl) rfl (hS.r 51 12 61 rfl) ?_
                    refine V_iload_n dX8_giveJoin_271 rfl rfl ?_
                    obtain ⟨hb, h⟩ := h
                    refine V_iald dX8_giveJoin_272 (hS.n 61 rfl) (hS.k 61 9 rfl) (by rw [(hS.z 61 24 rfl)]; exact hb) ?_
                    refine V_topi (fun v135 e_v135 => ?_)
                    replace h := h v135 e_v135
                    refine V_istore (lo2 := [(9, .int v135), (8, .int 0), (0, .ref 51), (1, .int a1), (2, .int u43), (3, .int u44), (4, .int u45), (5, .int u46), (6, .int u47), (7, .int u48)]) dX8_giveJoin_273 (by decide) rfl ?_
                    refine V_sub (lo2 := [(0, .ref 51), (1, .int a1), (2, .int u43), (3, .int u44), (4, .int u45), (5, .int u46), (9, .int v135)]) [2, 3, 4, 5, 6, 7, 0] rfl ?_
                    obtain ⟨f9, h⟩ := h
                    refine swX8_giveJoin_275 hS ?_ f9 _ _ _ _ _ _ h
                    · intro u136 u137 u138 u139 I140 h
                      refine V_aload_n dX8_giveJoin_302 rfl rfl ?_
                      refine V_getr dX8_giveJoin_303 fl_RX8_51 (hS.n 51 rfl) (hS.k 51 8 rfl) rfl (hS.r 51 18 64 rfl) ?_
                      refine V_iload_n dX8_giveJoin_306 rfl rfl ?_
                      refine V_dup2 dX8_giveJoin_307 rfl rfl ?_
                      obtain ⟨hb, h⟩ := h
                      refine V_iald dX8_giveJoin_308 (hS.n 64 rfl) (hS.k 64 9 rfl) (by rw [(hS.z 64 24 rfl)]; exact hb) ?_
                      refine V_iconst (v := 1) dX8_giveJoin_309 (by decide) ?_
                      refine V_iadd dX8_giveJoin_310 ?_
                      obtain ⟨hb, h⟩ := h
                      refine V_iast dX8_giveJoin_311 (hS.n 64 rfl) (hS.k 64 9 rfl) (by rw [(hS.z 64 24 rfl)]; exact hb) ?_
                      refine V_memI (fun I141 e_I141 => ?_)
                      replace h := h I141 e_I141
                      obtain ⟨v142, e_v142⟩ : ∃ z : Int32, z = (u139 + 1) := ⟨_, rfl⟩
                      replace h := h v142 e_v142
                      refine V_iinc (lo2 := [(5, .int v142), (0, .ref 51), (1, .int a1), (2, .int u136), (3, .int u137), (4, .int u138)]) 5 dX8_giveJoin_312 rfl (v := v142) (by rw [e_v142]; first | done | rfl) (by decide) rfl ?_
                      refine V_goto 25 dX8_giveJoin_315 rfl ?_
                      refine V_sub (lo2 := [(0, .ref 51), (1, .int a1), (2, .int u136), (3, .int u137), (4, .int u138), (5, .int v142)]) [1, 2, 3, 4, 5, 0] rfl ?_
                      exact ih _ _ _ _ _ h
                  · replace h := h.2 hc
                    refine V_iload dX8_giveJoin_241 rfl ?_
                    refine V_iconst (v := 3) dX8_giveJoin_243 (by decide) ?_
                    refine V_icmp_le 312 dX8_giveJoin_244 rfl (fun hc => ?_) (fun hc => ?_)
                    · replace h := h.1 hc
                      obtain ⟨v143, e_v143⟩ : ∃ z : Int32, z = (u46 + 1) := ⟨_, rfl⟩
                      replace h := h v143 e_v143
                      refine V_iinc (lo2 := [(5, .int v143), (8, .int 0), (0, .ref 51), (1, .int a1), (2, .int u43), (3, .int u44), (4, .int u45), (6, .int u47), (7, .int u48)]) 6 dX8_giveJoin_312 rfl (v := v143) (by rw [e_v143]; first | done | rfl) (by decide) rfl ?_
                      refine V_goto 25 dX8_giveJoin_315 rfl ?_
                      refine V_sub (lo2 := [(0, .ref 51), (1, .int a1), (2, .int u43), (3, .int u44), (4, .int u45), (5, .int v143)]) [2, 3, 4, 5, 6, 0] rfl ?_
                      exact ih _ _ _ _ _ h
                    · replace h := h.2 hc
                      refine V_iload dX8_giveJoin_247 rfl ?_
                      refine V_aload_n dX8_giveJoin_249 rfl rfl ?_
                      refine V_getr dX8_giveJoin_250 fl_RX8_51 (hS.n 51 rfl) (hS.k 51 8 rfl) rfl (hS.r 51 18 64 rfl) ?_
                      refine V_iload_n dX8_giveJoin_253 rfl rfl ?_
                      obtain ⟨hb, h⟩ := h
                      refine V_iald dX8_giveJoin_254 (hS.n 64 rfl) (hS.k 64 9 rfl) (by rw [(hS.z 64 24 rfl)]; exact hb) ?_
                      refine V_icmp_ne 312 dX8_giveJoin_255 rfl (fun hc => ?_) (fun hc => ?_)
                      · replace h := h.1 hc
                        obtain ⟨v144, e_v144⟩ : ∃ z : Int32, z = (u46 + 1) := ⟨_, rfl⟩
                        replace h := h v144 e_v144
                        refine V_iinc (lo2 := [(5, .int v144), (8, .int 0), (0, .ref 51), (1, .int a1), (2, .int u43), (3, .int u44), (4, .int u45), (6, .int u47), (7, .int u48)]) 6 dX8_giveJoin_312 rfl (v := v144) (by rw [e_v144]; first | done | rfl) (by decide) rfl ?_
                        refine V_goto 25 dX8_giveJoin_315 rfl ?_
                        refine V_sub (lo2 := [(0, .ref 51), (1, .int a1), (2, .int u43), (3, .int u44), (4, .int u45), (5, .int v144)]) [2, 3, 4, 5, 6, 0] rfl ?_
                        exact ih _ _ _ _ _ h
                      · replace h := h.2 hc
                        refine V_aload_n dX8_giveJoin_258 rfl rfl ?_
                        refine V_iload_n dX8_giveJoin_259 rfl rfl ?_
                        refine V_iload_n dX8_giveJoin_260 rfl rfl ?_
                        refine V_iload dX8_giveJoin_261 rfl ?_
                        refine V_iconst (v := 0) dX8_giveJoin_263 (by decide) ?_
                        refine V_callVv (st := []) [.int a1, .int u43, .int u46, .int 0] dX8_giveJoin_264 ok_mX8_copyRow rfl ml_RX8_158 in_mX8_copyRow se_mX8_copyRow (hS.n 51 rfl) (hS.k 51 8 rfl) (by decide) rfl (Nat.le_of_ble_eq_true rfl) (by decide) (by decide) (by decide) (s_mX8_copyRow hS h) (fun I145 J9 h => ?_)
                        obtain ⟨rfl, h⟩ := h
                        refine V_aload_n dX8_giveJoin_267 rfl rfl ?_
                        refine V_getr dX8_giveJoin_268 fl_RX8_37 (hS.n 51 rfl) (hS.k 51 8 rfl) rfl (hS.r 51 12 61 rfl) ?_
                        refine V_iload_n dX8_giveJoin_271 rfl rfl ?_
                        obtain ⟨hb, h⟩ := h
                        refine V_iald dX8_giveJoin_272 (hS.n 61 rfl) (hS.k 61 9 rfl) (by rw [(hS.z 61 24 rfl)]; exact hb) ?_
                        refine V_topi (fun v146 e_v146 => ?_)
                        replace h := h v146 e_v146
                        refine V_istore (lo2 := [(9, .int v146), (8, .int 0), (0, .ref 51), (1, .int a1), (2, .int u43), (3, .int u44), (4, .int u45), (5, .int u46), (6, .int u47), (7, .int u48)]) dX8_giveJoin_273 (by decide) rfl ?_
                        refine V_sub (lo2 := [(0, .ref 51), (1, .int a1), (2, .int u43), (3, .int u44), (4, .int u45), (5, .int u46), (9, .int v146)]) [2, 3, 4, 5, 6, 7, 0] rfl ?_
                        obtain ⟨f9, h⟩ := h
                        refine swX8_giveJoin_275 hS ?_ f9 _ _ _ _ _ _ h
                        · intro u147 u148 u149 u150 I151 h
                          refine V_aload_n dX8_giveJoin_302 rfl rfl ?_
                          refine V_getr dX8_giveJoin_303 fl_RX8_51 (hS.n 51 rfl) (hS.k 51 8 rfl) rfl (hS.r 51 18 64 rfl) ?_
                          refine V_iload_n dX8_giveJoin_306 rfl rfl ?_
                          refine V_dup2 dX8_giveJoin_307 rfl rfl ?_
                          obtain ⟨hb, h⟩ := h
                          refine V_iald dX8_giveJoin_308 (hS.n 64 rfl) (hS.k 64 9 rfl) (by rw [(hS.z 64 24 rfl)]; exact hb) ?_
                          refine V_iconst (v := 1) dX8_giveJoin_309 (by decide) ?_
                          refine V_iadd dX8_giveJoin_310 ?_
                          obtain ⟨hb, h⟩ := h
                          refine V_iast dX8_giveJoin_311 (hS.n 64 rfl) (hS.k 64 9 rfl) (by rw [(hS.z 64 24 rfl)]; exact hb) ?_
                          refine V_memI (fun I152 e_I152 => ?_)
                          replace h := h I152 e_I152
                          obtain ⟨v153, e_v153⟩ : ∃ z : Int32, z = (u150 + 1) := ⟨_, rfl⟩
                          replace h := h v153 e_v153
                          refine V_iinc (lo2 := [(5, .int v153), (0, .ref 51), (1, .int a1), (2, .int u147), (3, .int u148), (4, .int u149)]) 5 dX8_giveJoin_312 rfl (v := v153) (by rw [e_v153]; first | done | rfl) (by decide) rfl ?_
                          refine V_goto 25 dX8_giveJoin_315 rfl ?_
                          refine V_sub (lo2 := [(0, .ref 51), (1, .int a1), (2, .int u147), (3, .int u148), (4, .int u149), (5, .int v153)]) [1, 2, 3, 4, 5, 0] rfl ?_
                          exact ih _ _ _ _ _ h
              · replace h := h.2 hc
                refine V_iload dX8_giveJoin_225 rfl ?_
                refine V_if_gt 258 dX8_giveJoin_227 rfl (fun hc => ?_) (fun hc => ?_)
                · replace h := h.1 hc
                  refine V_aload_n dX8_giveJoin_258 rfl rfl ?_
                  refine V_iload_n dX8_giveJoin_259 rfl rfl ?_
                  refine V_iload_n dX8_giveJoin_260 rfl rfl ?_
                  refine V_iload dX8_giveJoin_261 rfl ?_
                  refine V_iconst (v := 0) dX8_giveJoin_263 (by decide) ?_
                  refine V_callVv (st := []) [.int a1, .int u43, .int u46, .int 0] dX8_giveJoin_264 ok_mX8_copyRow rfl ml_RX8_158 in_mX8_copyRow se_mX8_copyRow (hS.n 51 rfl) (hS.k 51 8 rfl) (by decide) rfl (Nat.le_of_ble_eq_true rfl) (by decide) (by decide) (by decide) (s_mX8_copyRow hS h) (fun I154 J9 h => ?_)
                  obtain ⟨rfl, h⟩ := h
                  refine V_aload_n dX8_giveJoin_267 rfl rfl ?_
                  refine V_getr dX8_giveJoin_268 fl_RX8_37 (hS.n 51 rfl) (hS.k 51 8 rfl) rfl (hS.r 51 12 61 rfl) ?_
                  refine V_iload_n dX8_giveJoin_271 rfl rfl ?_
                  obtain ⟨hb, h⟩ := h
                  refine V_iald dX8_giveJoin_272 (hS.n 61 rfl) (hS.k 61 9 rfl) (by rw [(hS.z 61 24 rfl)]; exact hb) ?_
                  refine V_topi (fun v155 e_v155 => ?_)
                  replace h := h v155 e_v155
                  refine V_istore (lo2 := [(9, .int v155), (8, .int 0), (0, .ref 51), (1, .int a1), (2, .int u43), (3, .int u44), (4, .int u45), (5, .int u46), (6, .int u47), (7, .int u48)]) dX8_giveJoin_273 (by decide) rfl ?_
                  refine V_sub (lo2 := [(0, .ref 51), (1, .int a1), (2, .int u43), (3, .int u44), (4, .int u45), (5, .int u46), (9, .int v155)]) [2, 3, 4, 5, 6, 7, 0] rfl ?_
                  obtain ⟨f9, h⟩ := h
                  refine swX8_giveJoin_275 hS ?_ f9 _ _ _ _ _ _ h
                  · intro u156 u157 u158 u159 I160 h
                    refine V_aload_n dX8_giveJoin_302 rfl rfl ?_
                    refine V_getr dX8_giveJoin_303 fl_RX8_51 (hS.n 51 rfl) (hS.k 51 8 rfl) rfl (hS.r 51 18 64 rfl) ?_
                    refine V_iload_n dX8_giveJoin_306 rfl rfl ?_
                    refine V_dup2 dX8_giveJoin_307 rfl rfl ?_
                    obtain ⟨hb, h⟩ := h
                    refine V_iald dX8_giveJoin_308 (hS.n 64 rfl) (hS.k 64 9 rfl) (by rw [(hS.z 64 24 rfl)]; exact hb) ?_
                    refine V_iconst (v := 1) dX8_giveJoin_309 (by decide) ?_
                    refine V_iadd dX8_giveJoin_310 ?_
                    obtain ⟨hb, h⟩ := h
                    refine V_iast dX8_giveJoin_311 (hS.n 64 rfl) (hS.k 64 9 rfl) (by rw [(hS.z 64 24 rfl)]; exact hb) ?_
                    refine V_memI (fun I161 e_I161 => ?_)
                    replace h := h I161 e_I161
                    obtain ⟨v162, e_v162⟩ : ∃ z : Int32, z = (u159 + 1) := ⟨_, rfl⟩
                    replace h := h v162 e_v162
                    refine V_iinc (lo2 := [(5, .int v162), (0, .ref 51), (1, .int a1), (2, .int u156), (3, .int u157), (4, .int u158)]) 5 dX8_giveJoin_312 rfl (v := v162) (by rw [e_v162]; first | done | rfl) (by decide) rfl ?_
                    refine V_goto 25 dX8_giveJoin_315 rfl ?_
                    refine V_sub (lo2 := [(0, .ref 51), (1, .int a1), (2, .int u156), (3, .int u157), (4, .int u158), (5, .int v162)]) [1, 2, 3, 4, 5, 0] rfl ?_
                    exact ih _ _ _ _ _ h
                · replace h := h.2 hc
                  refine V_iload dX8_giveJoin_230 rfl ?_
                  refine V_iconst (v := 3) dX8_giveJoin_232 (by decide) ?_
                  refine V_icmp_ne 241 dX8_giveJoin_233 rfl (fun hc => ?_) (fun hc => ?_)
                  · replace h := h.1 hc
                    refine V_iload dX8_giveJoin_241 rfl ?_
                    refine V_iconst (v := 3) dX8_giveJoin_243 (by decide) ?_
                    refine V_icmp_le 312 dX8_giveJoin_244 rfl (fun hc => ?_) (fun hc => ?_)
                    · replace h := h.1 hc
                      obtain ⟨v163, e_v163⟩ : ∃ z : Int32, z = (u46 + 1) := ⟨_, rfl⟩
                      replace h := h v163 e_v163
                      refine V_iinc (lo2 := [(5, .int v163), (8, .int 0), (0, .ref 51), (1, .int a1), (2, .int u43), (3, .int u44), (4, .int u45), (6, .int u47), (7, .int u48)]) 6 dX8_giveJoin_312 rfl (v := v163) (by rw [e_v163]; first | done | rfl) (by decide) rfl ?_
                      refine V_goto 25 dX8_giveJoin_315 rfl ?_
                      refine V_sub (lo2 := [(0, .ref 51), (1, .int a1), (2, .int u43), (3, .int u44), (4, .int u45), (5, .int v163)]) [2, 3, 4, 5, 6, 0] rfl ?_
                      exact ih _ _ _ _ _ h
                    · replace h := h.2 hc
                      refine V_iload dX8_giveJoin_247 rfl ?_
                      refine V_aload_n dX8_giveJoin_249 rfl rfl ?_
                      refine V_getr dX8_giveJoin_250 fl_RX8_51 (hS.n 51 rfl) (hS.k 51 8 rfl) rfl (hS.r 51 18 64 rfl) ?_
                      refine V_iload_n dX8_giveJoin_253 rfl rfl ?_
                      obtain ⟨hb, h⟩ := h
                      refine V_iald dX8_giveJoin_254 (hS.n 64 rfl) (hS.k 64 9 rfl) (by rw [(hS.z 64 24 rfl)]; exact hb) ?_
                      refine V_icmp_ne 312 dX8_giveJoin_255 rfl (fun hc => ?_) (fun hc => ?_)
                      · replace h := h.1 hc
                        obtain ⟨v164, e_v164⟩ : ∃ z : Int32, z = (u46 + 1) := ⟨_, rfl⟩
                        replace h := h v164 e_v164
                        refine V_iinc (lo2 := [(5, .int v164), (8, .int 0), (0, .ref 51), (1, .int a1), (2, .int u43), (3, .int u44), (4, .int u45), (6, .int u47), (7, .int u48)]) 6 dX8_giveJoin_312 rfl (v := v164) (by rw [e_v164]; first | done | rfl) (by decide) rfl ?_
                        refine V_goto 25 dX8_giveJoin_315 rfl ?_
                        refine V_sub (lo2 := [(0, .ref 51), (1, .int a1), (2, .int u43), (3, .int u44), (4, .int u45), (5, .int v164)]) [2, 3, 4, 5, 6, 0] rfl ?_
                        exact ih _ _ _ _ _ h
                      · replace h := h.2 hc
                        refine V_aload_n dX8_giveJoin_258 rfl rfl ?_
                        refine V_iload_n dX8_giveJoin_259 rfl rfl ?_
                        refine V_iload_n dX8_giveJoin_260 rfl rfl ?_
                        refine V_iload dX8_giveJoin_261 rfl ?_
                        refine V_iconst (v := 0) dX8_giveJoin_263 (by decide) ?_
                        refine V_callVv (st := []) [.int a1, .int u43, .int u46, .int 0] dX8_giveJoin_264 ok_mX8_copyRow rfl ml_RX8_158 in_mX8_copyRow se_mX8_copyRow (hS.n 51 rfl) (hS.k 51 8 rfl) (by decide) rfl (Nat.le_of_ble_eq_true rfl) (by decide) (by decide) (by decide) (s_mX8_copyRow hS h) (fun I165 J9 h => ?_)
                        obtain ⟨rfl, h⟩ := h
                        refine V_aload_n dX8_giveJoin_267 rfl rfl ?_
                        refine V_getr dX8_giveJoin_268 fl_RX8_37 (hS.n 51 rfl) (hS.k 51 8 rfl) rfl (hS.r 51 12 61 rfl) ?_
                        refine V_iload_n dX8_giveJoin_271 rfl rfl ?_
                        obtain ⟨hb, h⟩ := h
                        refine V_iald dX8_giveJoin_272 (hS.n 61 rfl) (hS.k 61 9 rfl) (by rw [(hS.z 61 24 rfl)]; exact hb) ?_
                        refine V_topi (fun v166 e_v166 => ?_)
                        replace h := h v166 e_v166
                        refine V_istore (lo2 := [(9, .int v166), (8, .int 0), (0, .ref 51), (1, .int a1), (2, .int u43), (3, .int u44), (4, .int u45), (5, .int u46), (6, .int u47), (7, .int u48)]) dX8_giveJoin_273 (by decide) rfl ?_
                        refine V_sub (lo2 := [(0, .ref 51), (1, .int a1), (2, .int u43), (3, .int u44), (4, .int u45), (5, .int u46), (9, .int v166)]) [2, 3, 4, 5, 6, 7, 0] rfl ?_
                        obtain ⟨f9, h⟩ := h
                        refine swX8_giveJoin_275 hS ?_ f9 _ _ _ _ _ _ h
                        · intro u167 u168 u169 u170 I171 h
                          refine V_aload_n dX8_giveJoin_302 rfl rfl ?_
                          refine V_getr dX8_giveJoin_303 fl_RX8_51 (hS.n 51 rfl) (hS.k 51 8 rfl) rfl (hS.r 51 18 64 rfl) ?_
                          refine V_iload_n dX8_giveJoin_306 rfl rfl ?_
                          refine V_dup2 dX8_giveJoin_307 rfl rfl ?_
                          obtain ⟨hb, h⟩ := h
                          refine V_iald dX8_giveJoin_308 (hS.n 64 rfl) (hS.k 64 9 rfl) (by rw [(hS.z 64 24 rfl)]; exact hb) ?_
                          refine V_iconst (v := 1) dX8_giveJoin_309 (by decide) ?_
                          refine V_iadd dX8_giveJoin_310 ?_
                          obtain ⟨hb, h⟩ := h
                          refine V_iast dX8_giveJoin_311 (hS.n 64 rfl) (hS.k 64 9 rfl) (by rw [(hS.z 64 24 rfl)]; exact hb) ?_
                          refine V_memI (fun I172 e_I172 => ?_)
                          replace h := h I172 e_I172
                          obtain ⟨v173, e_v173⟩ : ∃ z : Int32, z = (u170 + 1) := ⟨_, rfl⟩
                          replace h := h v173 e_v173
                          refine V_iinc (lo2 := [(5, .int v173), (0, .ref 51), (1, .int a1), (2, .int u167), (3, .int u168), (4, .int u169)]) 5 dX8_giveJoin_312 rfl (v := v173) (by rw [e_v173]; first | done | rfl) (by decide) rfl ?_
                          refine V_goto 25 dX8_giveJoin_315 rfl ?_
                          refine V_sub (lo2 := [(0, .ref 51), (1, .int a1), (2, .int u167), (3, .int u168), (4, .int u169), (5, .int v173)]) [1, 2, 3, 4, 5, 0] rfl ?_
                          exact ih _ _ _ _ _ h
                  · replace h := h.2 hc
                    refine V_iload dX8_giveJoin_236 rfl ?_
                    refine V_if_eq 258 dX8_giveJoin_238 rfl (fun hc => ?_) (fun hc => ?_)
                    · replace h := h.1 hc
                      refine V_aload_n dX8_giveJoin_258 rfl rfl ?_
                      refine V_iload_n dX8_giveJoin_259 rfl rfl ?_
                      refine V_iload_n dX8_giveJoin_260 rfl rfl ?_
                      refine V_iload dX8_giveJoin_261 rfl ?_
                      refine V_iconst (v := 0) dX8_giveJoin_263 (by decide) ?_
                      refine V_callVv (st := []) [.int a1, .int u43, .int u46, .int 0] dX8_giveJoin_264 ok_mX8_copyRow rfl ml_RX8_158 in_mX8_copyRow se_mX8_copyRow (hS.n 51 rfl) (hS.k 51 8 rfl) (by decide) rfl (Nat.le_of_ble_eq_true rfl) (by decide) (by decide) (by decide) (s_mX8_copyRow hS h) (fun I174 J9 h => ?_)
                      obtain ⟨rfl, h⟩ := h
                      refine V_aload_n dX8_giveJoin_267 rfl rfl ?_
                      refine V_getr dX8_giveJoin_268 fl_RX8_37 (hS.n 51 rfl) (hS.k 51 8 rfl) rfl (hS.r 51 12 61 rfl) ?_
                      refine V_iload_n dX8_giveJoin_271 rfl rfl ?_
                      obtain ⟨hb, h⟩ := h
                      refine V_iald dX8_giveJoin_272 (hS.n 61 rfl) (hS.k 61 9 rfl) (by rw [(hS.z 61 24 rfl)]; exact hb) ?_
                      refine V_topi (fun v175 e_v175 => ?_)
                      replace h := h v175 e_v175
                      refine V_istore (lo2 := [(9, .int v175), (8, .int 0), (0, .ref 51), (1, .int a1), (2, .int u43), (3, .int u44), (4, .int u45), (5, .int u46), (6, .int u47), (7, .int u48)]) dX8_giveJoin_273 (by decide) rfl ?_
                      refine V_sub (lo2 := [(0, .ref 51), (1, .int a1), (2, .int u43), (3, .int u44), (4, .int u45), (5, .int u46), (9, .int v175)]) [2, 3, 4, 5, 6, 7, 0] rfl ?_
                      obtain ⟨f9, h⟩ := h
                      refine swX8_giveJoin_275 hS ?_ f9 _ _ _ _ _ _ h
                      · intro u176 u177 u178 u179 I180 h
                        refine V_aload_n dX8_giveJoin_302 rfl rfl ?_
                        refine V_getr dX8_giveJoin_303 fl_RX8_51 (hS.n 51 rfl) (hS.k 51 8 rfl) rfl (hS.r 51 18 64 rfl) ?_
                        refine V_iload_n dX8_giveJoin_306 rfl rfl ?_
                        refine V_dup2 dX8_giveJoin_307 rfl rfl ?_
                        obtain ⟨hb, h⟩ := h
                        refine V_iald dX8_giveJoin_308 (hS.n 64 rfl) (hS.k 64 9 rfl) (by rw [(hS.z 64 24 rfl)]; exact hb) ?_
                        refine V_iconst (v := 1) dX8_giveJoin_309 (by decide) ?_
                        refine V_iadd dX8_giveJoin_310 ?_
                        obtain ⟨hb, h⟩ := h
                        refine V_iast dX8_giveJoin_311 (hS.n 64 rfl) (hS.k 64 9 rfl) (by rw [(hS.z 64 24 rfl)]; exact hb) ?_
                        refine V_memI (fun I181 e_I181 => ?_)
                        replace h := h I181 e_I181
                        obtain ⟨v182, e_v182⟩ : ∃ z : Int32, z = (u179 + 1) := ⟨_, rfl⟩
                        replace h := h v182 e_v182
                        refine V_iinc (lo2 := [(5, .int v182), (0, .ref 51), (1, .int a1), (2, .int u176), (3, .int u177), (4, .int u178)]) 5 dX8_giveJoin_312 rfl (v := v182) (by rw [e_v182]; first | done | rfl) (by decide) rfl ?_
                        refine V_goto 25 dX8_giveJoin_315 rfl ?_
                        refine V_sub (lo2 := [(0, .ref 51), (1, .int a1), (2, .int u176), (3, .int u177), (4, .int u178), (5, .int v182)]) [1, 2, 3, 4, 5, 0] rfl ?_
                        exact ih _ _ _ _ _ h
                    · replace h := h.2 hc
                      refine V_iload dX8_giveJoin_241 rfl ?_
                      refine V_iconst (v := 3) dX8_giveJoin_243 (by decide) ?_
                      refine V_icmp_le 312 dX8_giveJoin_244 rfl (fun hc => ?_) (fun hc => ?_)
                      · replace h := h.1 hc
                        obtain ⟨v183, e_v183⟩ : ∃ z : Int32, z = (u46 + 1) := ⟨_, rfl⟩
                        replace h := h v183 e_v183
                        refine V_iinc (lo2 := [(5, .int v183), (8, .int 0), (0, .ref 51), (1, .int a1), (2, .int u43), (3, .int u44), (4, .int u45), (6, .int u47), (7, .int u48)]) 6 dX8_giveJoin_312 rfl (v := v183) (by rw [e_v183]; first | done | rfl) (by decide) rfl ?_
                        refine V_goto 25 dX8_giveJoin_315 rfl ?_
                        refine V_sub (lo2 := [(0, .ref 51), (1, .int a1), (2, .int u43), (3, .int u44), (4, .int u45), (5, .int v183)]) [2, 3, 4, 5, 6, 0] rfl ?_
                        exact ih _ _ _ _ _ h
                      · replace h := h.2 hc
                        refine V_iload dX8_giveJoin_247 rfl ?_
                        refine V_aload_n dX8_giveJoin_249 rfl rfl ?_
                        refine V_getr dX8_giveJoin_250 fl_RX8_51 (hS.n 51 rfl) (hS.k 51 8 rfl) rfl (hS.r 51 18 64 rfl) ?_
                        refine V_iload_n dX8_giveJoin_253 rfl rfl ?_
                        obtain ⟨hb, h⟩ := h
                        refine V_iald dX8_giveJoin_254 (hS.n 64 rfl) (hS.k 64 9 rfl) (by rw [(hS.z 64 24 rfl)]; exact hb) ?_
                        refine V_icmp_ne 312 dX8_giveJoin_255 rfl (fun hc => ?_) (fun hc => ?_)
                        · replace h := h.1 hc
                          obtain ⟨v184, e_v184⟩ : ∃ z : Int32, z = (u46 + 1) := ⟨_, rfl⟩
                          replace h := h v184 e_v184
                          refine V_iinc (lo2 := [(5, .int v184), (8, .int 0), (0, .ref 51), (1, .int a1), (2, .int u43), (3, .int u44), (4, .int u45), (6, .int u47), (7, .int u48)]) 6 dX8_giveJoin_312 rfl (v := v184) (by rw [e_v184]; first | done | rfl) (by decide) rfl ?_
                          refine V_goto 25 dX8_giveJoin_315 rfl ?_
                          refine V_sub (lo2 := [(0, .ref 51), (1, .int a1), (2, .int u43), (3, .int u44), (4, .int u45), (5, .int v184)]) [2, 3, 4, 5, 6, 0] rfl ?_
                          exact ih _ _ _ _ _ h
                        · replace h := h.2 hc
                          refine V_aload_n dX8_giveJoin_258 rfl rfl ?_
                          refine V_iload_n dX8_giveJoin_259 rfl rfl ?_
                          refine V_iload_n dX8_giveJoin_260 rfl rfl ?_
                          refine V_iload dX8_giveJoin_261 rfl ?_
                          refine V_iconst (v := 0) dX8_giveJoin_263 (by decide) ?_
                          refine V_callVv (st := []) [.int a1, .int u43, .int u46, .int 0] dX8_giveJoin_264 ok_mX8_copyRow rfl ml_RX8_158 in_mX8_copyRow se_mX8_copyRow (hS.n 51 rfl) (hS.k 51 8 rfl) (by decide) rfl (Nat.le_of_ble_eq_true rfl) (by decide) (by decide) (by decide) (s_mX8_copyRow hS h) (fun I185 J9 h => ?_)
                          obtain ⟨rfl, h⟩ := h
                          refine V_aload_n dX8_giveJoin_267 rfl rfl ?_
                          refine V_getr dX8_giveJoin_268 fl_RX8_37 (hS.n 51 rfl) (hS.k 51 8 rfl) rfl (hS.r 51 12 61 rfl) ?_
                          refine V_iload_n dX8_giveJoin_271 rfl rfl ?_
                          obtain ⟨hb, h⟩ := h
                          refine V_iald dX8_giveJoin_272 (hS.n 61 rfl) (hS.k 61 9 rfl) (by rw [(hS.z 61 24 rfl)]; exact hb) ?_
                          refine V_topi (fun v186 e_v186 => ?_)
                          replace h := h v186 e_v186
                          refine V_istore (lo2 := [(9, .int v186), (8, .int 0), (0, .ref 51), (1, .int a1), (2, .int u43), (3, .int u44), (4, .int u45), (5, .int u46), (6, .int u47), (7, .int u48)]) dX8_giveJoin_273 (by decide) rfl ?_
                          refine V_sub (lo2 := [(0, .ref 51), (1, .int a1), (2, .int u43), (3, .int u44), (4, .int u45), (5, .int u46), (9, .int v186)]) [2, 3, 4, 5, 6, 7, 0] rfl ?_
                          obtain ⟨f9, h⟩ := h
                          refine swX8_giveJoin_275 hS ?_ f9 _ _ _ _ _ _ h
                          · intro u187 u188 u189 u190 I191 h
                            refine V_aload_n dX8_giveJoin_302 rfl rfl ?_
                            refine V_getr dX8_giveJoin_303 fl_RX8_51 (hS.n 51 rfl) (hS.k 51 8 rfl) rfl (hS.r 51 18 64 rfl) ?_
                            refine V_iload_n dX8_giveJoin_306 rfl rfl ?_
                            refine V_dup2 dX8_giveJoin_307 rfl rfl ?_
                            obtain ⟨hb, h⟩ := h
                            refine V_iald dX8_giveJoin_308 (hS.n 64 rfl) (hS.k 64 9 rfl) (by rw [(hS.z 64 24 rfl)]; exact hb) ?_
                            refine V_iconst (v := 1) dX8_giveJoin_309 (by decide) ?_
                            refine V_iadd dX8_giveJoin_310 ?_
                            obtain ⟨hb, h⟩ := h
                            refine V_iast dX8_giveJoin_311 (hS.n 64 rfl) (hS.k 64 9 rfl) (by rw [(hS.z 64 24 rfl)]; exact hb) ?_
                            refine V_memI (fun I192 e_I192 => ?_)
                            replace h := h I192 e_I192
                            obtain ⟨v193, e_v193⟩ : ∃ z : Int32, z = (u190 + 1) := ⟨_, rfl⟩
                            replace h := h v193 e_v193
                            refine V_iinc (lo2 := [(5, .int v193), (0, .ref 51), (1, .int a1), (2, .int u187), (3, .int u188), (4, .int u189)]) 5 dX8_giveJoin_312 rfl (v := v193) (by rw [e_v193]; first | done | rfl) (by decide) rfl ?_
                            refine V_goto 25 dX8_giveJoin_315 rfl ?_
                            refine V_sub (lo2 := [(0, .ref 51), (1, .int a1), (2, .int u187), (3, .int u188), (4, .int u189), (5, .int v193)]) [1, 2, 3, 4, 5, 0] rfl ?_
                            exact ih _ _ _ _ _ h
          · replace h := h.2 hc
            refine V_iconst (v := 1) dX8_giveJoin_207 (by decide) ?_
            refine V_goto 212 dX8_giveJoin_208 rfl ?_
            refine V_istore (lo2 := [(8, .int 1), (0, .ref 51), (1, .int a1), (2, .int u43), (3, .int u44), (4, .int u45), (5, .int u46), (6, .int u47), (7, .int u48)]) dX8_giveJoin_212 (by decide) rfl ?_
            refine V_iload dX8_giveJoin_214 rfl ?_
            refine V_if_ne 258 dX8_giveJoin_216 rfl (fun hc => ?_) (fun hc => ?_)
            · refine V_aload_n dX8_giveJoin_258 rfl rfl ?_
              refine V_iload_n dX8_giveJoin_259 rfl rfl ?_
              refine V_iload_n dX8_giveJoin_260 rfl rfl ?_
              refine V_iload dX8_giveJoin_261 rfl ?_
              refine V_iconst (v := 0) dX8_giveJoin_263 (by decide) ?_
              refine V_callVv (st := []) [.int a1, .int u43, .int u46, .int 0] dX8_giveJoin_264 ok_mX8_copyRow rfl ml_RX8_158 in_mX8_copyRow se_mX8_copyRow (hS.n 51 rfl) (hS.k 51 8 rfl) (by decide) rfl (Nat.le_of_ble_eq_true rfl) (by decide) (by decide) (by decide) (s_mX8_copyRow hS h) (fun I194 J9 h => ?_)
              obtain ⟨rfl, h⟩ := h
              refine V_aload_n dX8_giveJoin_267 rfl rfl ?_
              refine V_getr dX8_giveJoin_268 fl_RX8_37 (hS.n 51 rfl) (hS.k 51 8 rfl) rfl (hS.r 51 12 61 rfl) ?_
              refine V_iload_n dX8_giveJoin_271 rfl rfl ?_
              obtain ⟨hb, h⟩ := h
              refine V_iald dX8_giveJoin_272 (hS.n 61 rfl) (hS.k 61 9 rfl) (by rw [(hS.z 61 24 rfl)]; exact hb) ?_
              refine V_topi (fun v195 e_v195 => ?_)
              replace h := h v195 e_v195
              refine V_istore (lo2 := [(9, .int v195), (8, .int 1), (0, .ref 51), (1, .int a1), (2, .int u43), (3, .int u44), (4, .int u45), (5, .int u46), (6, .int u47), (7, .int u48)]) dX8_giveJoin_273 (by decide) rfl ?_
              refine V_sub (lo2 := [(0, .ref 51), (1, .int a1), (2, .int u43), (3, .int u44), (4, .int u45), (5, .int u46), (9, .int v195)]) [2, 3, 4, 5, 6, 7, 0] rfl ?_
              obtain ⟨f9, h⟩ := h
              refine swX8_giveJoin_275 hS ?_ f9 _ _ _ _ _ _ h
              · intro u196 u197 u198 u199 I200 h
                refine V_aload_n dX8_giveJoin_302 rfl rfl ?_
                refine V_getr dX8_giveJoin_303 fl_RX8_51 (hS.n 51 rfl) (hS.k 51 8 rfl) rfl (hS.r 51 18 64 rfl) ?_
                refine V_iload_n dX8_giveJoin_306 rfl rfl ?_
                refine V_dup2 dX8_giveJoin_307 rfl rfl ?_
                obtain ⟨hb, h⟩ := h
                refine V_iald dX8_giveJoin_308 (hS.n 64 rfl) (hS.k 64 9 rfl) (by rw [(hS.z 64 24 rfl)]; exact hb) ?_
                refine V_iconst (v := 1) dX8_giveJoin_309 (by decide) ?_
                refine V_iadd dX8_giveJoin_310 ?_
                obtain ⟨hb, h⟩ := h
                refine V_iast dX8_giveJoin_311 (hS.n 64 rfl) (hS.k 64 9 rfl) (by rw [(hS.z 64 24 rfl)]; exact hb) ?_
                refine V_memI (fun I201 e_I201 => ?_)
                replace h := h I201 e_I201
                obtain ⟨v202, e_v202⟩ : ∃ z : Int32, z = (u199 + 1) := ⟨_, rfl⟩
                replace h := h v202 e_v202
                refine V_iinc (lo2 := [(5, .int v202), (0, .ref 51), (1, .int a1), (2, .int u196), (3, .int u197), (4, .int u198)]) 5 dX8_giveJoin_312 rfl (v := v202) (by rw [e_v202]; first | done | rfl) (by decide) rfl ?_
                refine V_goto 25 dX8_giveJoin_315 rfl ?_
                refine V_sub (lo2 := [(0, .ref 51), (1, .int a1), (2, .int u196), (3, .int u197), (4, .int u198), (5, .int v202)]) [1, 2, 3, 4, 5, 0] rfl ?_
                exact ih _ _ _ _ _ h
            · first | exact absurd hc (by decide) | exact absurd (by decide) hc
def wX8_giveJoin (a1 : Int32) (I : QI) (post : QI → Prop) : Prop := (vp_in a1 24 ∧ (∀ v1 : Int32, v1 = (I 56 (a1).toNatClampNeg) → (vp_in a1 24 ∧ (∀ v2 : Int32, v2 = (I 57 (a1).toNatClampNeg) → (vp_in a1 24 ∧ (∀ v3 : Int32, v3 = (I 60 (a1).toNatClampNeg) → (∃ f : Nat, wX8_giveJoin_25 a1 post f v1 v2 v3 0 I)))))))
set_option maxRecDepth 100000 in
set_option maxHeartbeats 4000000 in
theorem s_mX8_giveJoin {X : QX} {S : QS} {a1 : Int32} {I : QI} {J : QJ} {post : QI → Prop} (hS : Sh S) (h : wX8_giveJoin a1 I post) : CX X mX8_giveJoin 2 0 0 [.ref 51, .int a1] S I J (q_Pv S (fun I2 J2 => J = J2 ∧ post I2)) := by
  refine CX.of (lo := [(0, .ref 51), (1, .int a1)]) ok_mX8_giveJoin rfl (Nat.le_of_ble_eq_true rfl) rfl ?_
  replace h : (vp_in a1 24 ∧ (∀ v1 : Int32, v1 = (I 56 (a1).toNatClampNeg) → (vp_in a1 24 ∧ (∀ v2 : Int32, v2 = (I 57 (a1).toNatClampNeg) → (vp_in a1 24 ∧ (∀ v3 : Int32, v3 = (I 60 (a1).toNatClampNeg) → (∃ f : Nat, wX8_giveJoin_25 a1 post f v1 v2 v3 0 I))))))) := h
  refine V_aload_n dX8_giveJoin_0 rfl rfl ?_
  refine V_getr dX8_giveJoin_1 fl_RX8_22 (hS.n 51 rfl) (hS.k 51 8 rfl) rfl (hS.r 51 7 56 rfl) ?_
  refine V_iload_n dX8_giveJoin_4 rfl rfl ?_
  obtain ⟨hb, h⟩ := h
  refine V_iald dX8_giveJoin_5 (hS.n 56 rfl) (hS.k 56 9 rfl) (by rw [(hS.z 56 24 rfl)]; exact hb) ?_
  refine V_topi (fun v1 e_v1 => ?_)
  replace h := h v1 e_v1
  refine V_istore_n (lo2 := [(2, .int v1), (0, .ref 51), (1, .int a1)]) dX8_giveJoin_6 rfl (by decide) rfl ?_
  refine V_aload_n dX8_giveJoin_7 rfl rfl ?_
  refine V_getr dX8_giveJoin_8 fl_RX8_25 (hS.n 51 rfl) (hS.k 51 8 rfl) rfl (hS.r 51 8 57 rfl) ?_
  refine V_iload_n dX8_giveJoin_11 rfl rfl ?_
  obtain ⟨hb, h⟩ := h
  refine V_iald dX8_giveJoin_12 (hS.n 57 rfl) (hS.k 57 9 rfl) (by rw [(hS.z 57 24 rfl)]; exact hb) ?_
  refine V_topi (fun v2 e_v2 => ?_)
  replace h := h v2 e_v2
  refine V_istore_n (lo2 := [(3, .int v2), (2, .int v1), (0, .ref 51), (1, .int a1)]) dX8_giveJoin_13 rfl (by decide) rfl ?_
  refine V_aload_n dX8_giveJoin_14 rfl rfl ?_
  refine V_getr dX8_giveJoin_15 fl_RX8_34 (hS.n 51 rfl) (hS.k 51 8 rfl) rfl (hS.r 51 11 60 rfl) ?_
  refine V_iload_n dX8_giveJoin_18 rfl rfl ?_
  obtain ⟨hb, h⟩ := h
  refine V_iald dX8_giveJoin_19 (hS.n 60 rfl) (hS.k 60 9 rfl) (by rw [(hS.z 60 24 rfl)]; exact hb) ?_
  refine V_topi (fun v3 e_v3 => ?_)
  replace h := h v3 e_v3
  refine V_istore (lo2 := [(4, .int v3), (3, .int v2), (2, .int v1), (0, .ref 51), (1, .int a1)]) dX8_giveJoin_20 (by decide) rfl ?_
  refine V_iconst (v := 0) dX8_giveJoin_22 (by decide) ?_
  refine V_istore (lo2 := [(5, .int 0), (4, .int v3), (3, .int v2), (2, .int v1), (0, .ref 51), (1, .int a1)]) dX8_giveJoin_23 (by decide) rfl ?_
  refine V_sub (lo2 := [(0, .ref 51), (1, .int a1), (2, .int v1), (3, .int v2), (4, .int v3), (5, .int 0)]) [4, 5, 3, 2, 1, 0] rfl ?_
  obtain ⟨f9, h⟩ := h
  refine swX8_giveJoin_25 hS f9 _ _ _ _ _ h
def wX8_at (a1 : Int32) (a2 : Int32) (a3 : Int32) (I : QI) (post : Int32 → Prop) : Prop := (vp_in ((((10 * a1) + a2) * 3) + a3) 120 ∧ post (I 54 (((((10 * a1) + a2) * 3) + a3)).toNatClampNeg))
set_option maxRecDepth 100000 in
set_option maxHeartbeats 4000000 in
theorem s_mX8_at {X : QX} {S : QS} {a1 : Int32} {a2 : Int32} {a3 : Int32} {I : QI} {J : QJ} {post : Int32 → Prop} (hS : Sh S) (h : wX8_at a1 a2 a3 I post) : CX X mX8_at 0 0 0 [.ref 51, .int a1, .int a2, .int a3] S I J (q_Pi S (fun r I2 J2 => I = I2 ∧ J = J2 ∧ post r)) := by
  refine CX.of (lo := [(0, .ref 51), (1, .int a1), (2, .int a2), (3, .int a3)]) ok_mX8_at rfl (Nat.le_of_ble_eq_true rfl) rfl ?_
  replace h : (vp_in ((((10 * a1) + a2) * 3) + a3) 120 ∧ post (I 54 (((((10 * a1) + a2) * 3) + a3)).toNatClampNeg)) := h
  refine V_aload_n dX8_at_0 rfl rfl ?_
  refine V_getr dX8_at_1 fl_RX8_16 (hS.n 51 rfl) (hS.k 51 8 rfl) rfl (hS.r 51 4 54 rfl) ?_
  refine V_bipush (v := 10) dX8_at_4 (by decide) ?_
  refine V_iload_n dX8_at_6 rfl rfl ?_
  refine V_imul dX8_at_7 ?_
  refine V_iload_n dX8_at_8 rfl rfl ?_
  refine V_iadd dX8_at_9 ?_
  refine V_iconst (v := 3) dX8_at_10 (by decide) ?_
  refine V_imul dX8_at_11 ?_
  refine V_iload_n dX8_at_12 rfl rfl ?_
  refine V_iadd dX8_at_13 ?_
  obtain ⟨hb, h⟩ := h
  refine V_iald dX8_at_14 (hS.n 54 rfl) (hS.k 54 9 rfl) (by rw [(hS.z 54 120 rfl)]; exact hb) ?_
  exact V_iret dX8_at_15 rfl (by decide) (by decide) ⟨_, rfl, rfl, rfl, rfl, h⟩
def wX8_giveScan_19 (a1 : Int32) (K53 : Int32 → QI → Prop) (post : QI → Prop) : Nat → Int32 → Int32 → QI → Prop
  | 0, _, _, _ => False
  | n + 1, x2, x3, I => (vp_in a1 24 ∧ (((I 61 (a1).toNatClampNeg) ≤ x3 → (K53 x2 I)) ∧ (¬ (I 61 (a1).toNatClampNeg) ≤ x3 → (vp_in a1 24 ∧ (wX8_at (I 56 (a1).toNatClampNeg) x2 x3 I (fun r1 => (wX8_put a1 x3 r1 I (fun I2 => (∀ v3 : Int32, v3 = (x3 + 1) → (wX8_giveScan_19 a1 K53 post n x2 v3 I2))))))))))
set_option maxRecDepth 100000 in
set_option maxHeartbeats 4000000 in
theorem swX8_giveScan_19 {X : QX} {S : QS} {a1 : Int32} {J : QJ} {K53 : Int32 → QI → Prop} {post : QI → Prop} (hS : Sh S) (hK53 : ∀ (z2 : Int32) (I : QI), K53 z2 I → V X mX8_giveScan 1 0 0 (q_Pv S (fun I2 J2 => J = J2 ∧ post I2)) 53 [(0, .ref 51), (1, .int a1), (2, .int z2)] [] S I J 0 0) : ∀ (f : Nat) (x2 : Int32) (x3 : Int32) (I : QI), wX8_giveScan_19 a1 K53 post f x2 x3 I → V X mX8_giveScan 1 0 0 (q_Pv S (fun I2 J2 => J = J2 ∧ post I2)) 19 [(0, .ref 51), (1, .int a1), (2, .int x2), (3, .int x3)] [] S I J 0 0 := by
  intro f
  induction f with
  | zero => intro x2 x3 I h; exact h.elim
  | succ n ih =>
    intro x2 x3 I h
    replace h : (vp_in a1 24 ∧ (((I 61 (a1).toNatClampNeg) ≤ x3 → (K53 x2 I)) ∧ (¬ (I 61 (a1).toNatClampNeg) ≤ x3 → (vp_in a1 24 ∧ (wX8_at (I 56 (a1).toNatClampNeg) x2 x3 I (fun r1 => (wX8_put a1 x3 r1 I (fun I2 => (∀ v3 : Int32, v3 = (x3 + 1) → (wX8_giveScan_19 a1 K53 post n x2 v3 I2)))))))))) := h
    refine V_iload_n dX8_giveScan_19 rfl rfl ?_
    refine V_aload_n dX8_giveScan_20 rfl rfl ?_
    refine V_getr dX8_giveScan_21 fl_RX8_37 (hS.n 51 rfl) (hS.k 51 8 rfl) rfl (hS.r 51 12 61 rfl) ?_
    refine V_iload_n dX8_giveScan_24 rfl rfl ?_
    obtain ⟨hb, h⟩ := h
    refine V_iald dX8_giveScan_25 (hS.n 61 rfl) (hS.k 61 9 rfl) (by rw [(hS.z 61 24 rfl)]; exact hb) ?_
    refine V_icmp_ge 53 dX8_giveScan_26 rfl (fun hc => ?_) (fun hc => ?_)
    · replace h := h.1 hc
      refine V_sub (lo2 := [(0, .ref 51), (1, .int a1), (2, .int x2)]) [0, 1, 2] rfl ?_
      exact hK53 _ _ h
    · replace h := h.2 hc
      refine V_aload_n dX8_giveScan_29 rfl rfl ?_
      refine V_iload_n dX8_giveScan_30 rfl rfl ?_
      refine V_iload_n dX8_giveScan_31 rfl rfl ?_
      refine V_aload_n dX8_giveScan_32 rfl rfl ?_
      refine V_aload_n dX8_giveScan_33 rfl rfl ?_
      refine V_getr dX8_giveScan_34 fl_RX8_22 (hS.n 51 rfl) (hS.k 51 8 rfl) rfl (hS.r 51 7 56 rfl) ?_
      refine V_iload_n dX8_giveScan_37 rfl rfl ?_
      obtain ⟨hb, h⟩ := h
      refine V_iald dX8_giveScan_38 (hS.n 56 rfl) (hS.k 56 9 rfl) (by rw [(hS.z 56 24 rfl)]; exact hb) ?_
      refine V_iload_n dX8_giveScan_39 rfl rfl ?_
      refine V_iload_n dX8_giveScan_40 rfl rfl ?_
      refine V_callVi (st := [.int x3, .int a1, .ref 51]) [.int (I 56 (a1).toNatClampNeg), .int x2, .int x3] dX8_giveScan_41 ok_mX8_at rfl ml_RX8_152 in_mX8_at se_mX8_at (hS.n 51 rfl) (hS.k 51 8 rfl) (by decide) rfl (Nat.le_of_ble_eq_true rfl) (by decide) (by decide) (by decide) (s_mX8_at hS h) (fun r1 I9 J9 h => ?_)
      obtain ⟨rfl, rfl, h⟩ := h
      refine V_callVv (st := []) [.int a1, .int x3, .int r1] dX8_giveScan_44 ok_mX8_put rfl ml_RX8_148 in_mX8_put se_mX8_put (hS.n 51 rfl) (hS.k 51 8 rfl) (by decide) rfl (Nat.le_of_ble_eq_true rfl) (by decide) (by decide) (by decide) (s_mX8_put hS h) (fun I2 J9 h => ?_)
      obtain ⟨rfl, h⟩ := h
      obtain ⟨v3, e_v3⟩ : ∃ z : Int32, z = (x3 + 1) := ⟨_, rfl⟩
      replace h := h v3 e_v3
      refine V_iinc (lo2 := [(3, .int v3), (0, .ref 51), (1, .int a1), (2, .int x2)]) 3 dX8_giveScan_47 rfl (v := v3) (by rw [e_v3]; first | done | rfl) (by decide) rfl ?_
      refine V_goto 19 dX8_giveScan_50 rfl ?_
      refine V_sub (lo2 := [(0, .ref 51), (1, .int a1), (2, .int x2), (3, .int v3)]) [1, 2, 3, 0] rfl ?_
      exact ih _ _ _ h
def wX8_giveScan_2 (a1 : Int32) (post : QI → Prop) : Nat → Int32 → QI → Prop
  | 0, _, _ => False
  | n + 1, x2, I => (vp_in a1 24 ∧ (vp_in (I 56 (a1).toNatClampNeg) 4 ∧ (((I 53 ((I 56 (a1).toNatClampNeg)).toNatClampNeg) ≤ x2 → post I) ∧ (¬ (I 53 ((I 56 (a1).toNatClampNeg)).toNatClampNeg) ≤ x2 → (∃ f : Nat, wX8_giveScan_19 a1 (fun u4 I5 => (vp_in a1 24 ∧ (vp_in a1 24 ∧ (∀ I6 : QI, I6 = q_u2 I5 64 (a1).toNatClampNeg ((I5 64 (a1).toNatClampNeg) + 1) → (∀ v7 : Int32, v7 = (u4 + 1) → (wX8_giveScan_2 a1 post n v7 I6)))))) post f x2 0 I)))))
set_option maxRecDepth 100000 in
set_option maxHeartbeats 4000000 in
theorem swX8_giveScan_2 {X : QX} {S : QS} {a1 : Int32} {J : QJ} {post : QI → Prop} (hS : Sh S) : ∀ (f : Nat) (x2 : Int32) (I : QI), wX8_giveScan_2 a1 post f x2 I → V X mX8_giveScan 1 0 0 (q_Pv S (fun I2 J2 => J = J2 ∧ post I2)) 2 [(0, .ref 51), (1, .int a1), (2, .int x2)] [] S I J 0 0 := by
  intro f
  induction f with
  | zero => intro x2 I h; exact h.elim
  | succ n ih =>
    intro x2 I h
    replace h : (vp_in a1 24 ∧ (vp_in (I 56 (a1).toNatClampNeg) 4 ∧ (((I 53 ((I 56 (a1).toNatClampNeg)).toNatClampNeg) ≤ x2 → post I) ∧ (¬ (I 53 ((I 56 (a1).toNatClampNeg)).toNatClampNeg) ≤ x2 → (∃ f : Nat, wX8_giveScan_19 a1 (fun u4 I5 => (vp_in a1 24 ∧ (vp_in a1 24 ∧ (∀ I6 : QI, I6 = q_u2 I5 64 (a1).toNatClampNeg ((I5 64 (a1).toNatClampNeg) + 1) → (∀ v7 : Int32, v7 = (u4 + 1) → (wX8_giveScan_2 a1 post n v7 I6)))))) post f x2 0 I))))) := h
    refine V_iload_n dX8_giveScan_2 rfl rfl ?_
    refine V_aload_n dX8_giveScan_3 rfl rfl ?_
    refine V_getr dX8_giveScan_4 fl_RX8_13 (hS.n 51 rfl) (hS.k 51 8 rfl) rfl (hS.r 51 3 53 rfl) ?_
    refine V_aload_n dX8_giveScan_7 rfl rfl ?_
    refine V_getr dX8_giveScan_8 fl_RX8_22 (hS.n 51 rfl) (hS.k 51 8 rfl) rfl (hS.r 51 7 56 rfl) ?_
    refine V_iload_n dX8_giveScan_11 rfl rfl ?_
    obtain ⟨hb, h⟩ := h
    refine V_iald dX8_giveScan_12 (hS.n 56 rfl) (hS.k 56 9 rfl) (by rw [(hS.z 56 24 rfl)]; exact hb) ?_
    obtain ⟨hb, h⟩ := h
    refine V_iald dX8_giveScan_13 (hS.n 53 rfl) (hS.k 53 9 rfl) (by rw [(hS.z 53 4 rfl)]; exact hb) ?_
    refine V_icmp_ge 69 dX8_giveScan_14 rfl (fun hc => ?_) (fun hc => ?_)
    · replace h := h.1 hc
      exact V_vret dX8_giveScan_69 rfl (by decide) (by decide) ⟨rfl, rfl, rfl, h⟩
    · replace h := h.2 hc
      refine V_iconst (v := 0) dX8_giveScan_17 (by decide) ?_
      refine V_istore_n (lo2 := [(3, .int 0), (0, .ref 51), (1, .int a1), (2, .int x2)]) dX8_giveScan_18 rfl (by decide) rfl ?_
      refine V_sub (lo2 := [(0, .ref 51), (1, .int a1), (2, .int x2), (3, .int 0)]) [1, 2, 3, 0] rfl ?_
      obtain ⟨f9, h⟩ := h
      refine swX8_giveScan_19 hS ?_ f9 _ _ _ h
      · intro u4 I5 h
        refine V_aload_n dX8_giveScan_53 rfl rfl ?_
        refine V_getr dX8_giveScan_54 fl_RX8_51 (hS.n 51 rfl) (hS.k 51 8 rfl) rfl (hS.r 51 18 64 rfl) ?_
        refine V_iload_n dX8_giveScan_57 rfl rfl ?_
        refine V_dup2 dX8_giveScan_58 rfl rfl ?_
        obtain ⟨hb, h⟩ := h
        refine V_iald dX8_giveScan_59 (hS.n 64 rfl) (hS.k 64 9 rfl) (by rw [(hS.z 64 24 rfl)]; exact hb) ?_
        refine V_iconst (v := 1) dX8_giveScan_60 (by decide) ?_
        refine V_iadd dX8_giveScan_61 ?_
        obtain ⟨hb, h⟩ := h
        refine V_iast dX8_giveScan_62 (hS.n 64 rfl) (hS.k 64 9 rfl) (by rw [(hS.z 64 24 rfl)]; exact hb) ?_
        refine V_memI (fun I6 e_I6 => ?_)
        replace h := h I6 e_I6
        obtain ⟨v7, e_v7⟩ : ∃ z : Int32, z = (u4 + 1) := ⟨_, rfl⟩
        replace h := h v7 e_v7
        refine V_iinc (lo2 := [(2, .int v7), (0, .ref 51), (1, .int a1)]) 2 dX8_giveScan_63 rfl (v := v7) (by rw [e_v7]; first | done | rfl) (by decide) rfl ?_
        refine V_goto 2 dX8_giveScan_66 rfl ?_
        refine V_sub (lo2 := [(0, .ref 51), (1, .int a1), (2, .int v7)]) [1, 2, 0] rfl ?_
        exact ih _ _ h
def wX8_giveScan (a1 : Int32) (I : QI) (post : QI → Prop) : Prop := (∃ f : Nat, wX8_giveScan_2 a1 post f 0 I)
set_option maxRecDepth 100000 in
set_option maxHeartbeats 4000000 in
theorem s_mX8_giveScan {X : QX} {S : QS} {a1 : Int32} {I : QI} {J : QJ} {post : QI → Prop} (hS : Sh S) (h : wX8_giveScan a1 I post) : CX X mX8_giveScan 1 0 0 [.ref 51, .int a1] S I J (q_Pv S (fun I2 J2 => J = J2 ∧ post I2)) := by
  refine CX.of (lo := [(0, .ref 51), (1, .int a1)]) ok_mX8_giveScan rfl (Nat.le_of_ble_eq_true rfl) rfl ?_
  replace h : (∃ f : Nat, wX8_giveScan_2 a1 post f 0 I) := h
  refine V_iconst (v := 0) dX8_giveScan_0 (by decide) ?_
  refine V_istore_n (lo2 := [(2, .int 0), (0, .ref 51), (1, .int a1)]) dX8_giveScan_1 rfl (by decide) rfl ?_
  refine V_sub (lo2 := [(0, .ref 51), (1, .int a1), (2, .int 0)]) [1, 2, 0] rfl ?_
  obtain ⟨f9, h⟩ := h
  refine swX8_giveScan_2 hS f9 _ _ h
def wX8_give (a1 : Int32) (I : QI) (post : QI → Prop) : Prop := (vp_in a1 24 ∧ ((¬ (I 55 (a1).toNatClampNeg) = 0 → (vp_in a1 24 ∧ ((¬ (I 55 (a1).toNatClampNeg) = 1 → (vp_in a1 24 ∧ ((¬ (I 55 (a1).toNatClampNeg) = 2 → (vp_in a1 24 ∧ ((¬ (I 55 (a1).toNatClampNeg) = 3 → (wX8_giveBag a1 I (fun I1 => post I1))) ∧ ((I 55 (a1).toNatClampNeg) = 3 → (wX8_giveGroup a1 I (fun I2 => post I2)))))) ∧ ((I 55 (a1).toNatClampNeg) = 2 → (wX8_giveJoin a1 I (fun I3 => post I3)))))) ∧ ((I 55 (a1).toNatClampNeg) = 1 → (wX8_giveFilter a1 I (fun I4 => post I4)))))) ∧ ((I 55 (a1).toNatClampNeg) = 0 → (wX8_giveScan a1 I (fun I5 => post I5)))))
set_option maxRecDepth 100000 in
set_option maxHeartbeats 4000000 in
theorem s_mX8_give {X : QX} {S : QS} {a1 : Int32} {I : QI} {J : QJ} {post : QI → Prop} (hS : Sh S) (h : wX8_give a1 I post) : CX X mX8_give 4 0 0 [.ref 51, .int a1] S I J (q_Pv S (fun I2 J2 => J = J2 ∧ post I2)) := by
  refine CX.of (lo := [(0, .ref 51), (1, .int a1)]) ok_mX8_give rfl (Nat.le_of_ble_eq_true rfl) rfl ?_
  replace h : (vp_in a1 24 ∧ ((¬ (I 55 (a1).toNatClampNeg) = 0 → (vp_in a1 24 ∧ ((¬ (I 55 (a1).toNatClampNeg) = 1 → (vp_in a1 24 ∧ ((¬ (I 55 (a1).toNatClampNeg) = 2 → (vp_in a1 24 ∧ ((¬ (I 55 (a1).toNatClampNeg) = 3 → (wX8_giveBag a1 I (fun I1 => post I1))) ∧ ((I 55 (a1).toNatClampNeg) = 3 → (wX8_giveGroup a1 I (fun I2 => post I2)))))) ∧ ((I 55 (a1).toNatClampNeg) = 2 → (wX8_giveJoin a1 I (fun I3 => post I3)))))) ∧ ((I 55 (a1).toNatClampNeg) = 1 → (wX8_giveFilter a1 I (fun I4 => post I4)))))) ∧ ((I 55 (a1).toNatClampNeg) = 0 → (wX8_giveScan a1 I (fun I5 => post I5))))) := h
  refine V_aload_n dX8_give_0 rfl rfl ?_
  refine V_getr dX8_give_1 fl_RX8_19 (hS.n 51 rfl) (hS.k 51 8 rfl) rfl (hS.r 51 6 55 rfl) ?_
  refine V_iload_n dX8_give_4 rfl rfl ?_
  obtain ⟨hb, h⟩ := h
  refine V_iald dX8_give_5 (hS.n 55 rfl) (hS.k 55 9 rfl) (by rw [(hS.z 55 24 rfl)]; exact hb) ?_
  refine V_if_ne 17 dX8_give_6 rfl (fun hc => ?_) (fun hc => ?_)
  · replace h := h.1 hc
    refine V_aload_n dX8_give_17 rfl rfl ?_
    refine V_getr dX8_give_18 fl_RX8_19 (hS.n 51 rfl) (hS.k 51 8 rfl) rfl (hS.r 51 6 55 rfl) ?_
    refine V_iload_n dX8_give_21 rfl rfl ?_
    obtain ⟨hb, h⟩ := h
    refine V_iald dX8_give_22 (hS.n 55 rfl) (hS.k 55 9 rfl) (by rw [(hS.z 55 24 rfl)]; exact hb) ?_
    refine V_iconst (v := 1) dX8_give_23 (by decide) ?_
    refine V_icmp_ne 35 dX8_give_24 rfl (fun hc => ?_) (fun hc => ?_)
    · replace h := h.1 hc
      refine V_aload_n dX8_give_35 rfl rfl ?_
      refine V_getr dX8_give_36 fl_RX8_19 (hS.n 51 rfl) (hS.k 51 8 rfl) rfl (hS.r 51 6 55 rfl) ?_
      refine V_iload_n dX8_give_39 rfl rfl ?_
      obtain ⟨hb, h⟩ := h
      refine V_iald dX8_give_40 (hS.n 55 rfl) (hS.k 55 9 rfl) (by rw [(hS.z 55 24 rfl)]; exact hb) ?_
      refine V_iconst (v := 2) dX8_give_41 (by decide) ?_
      refine V_icmp_ne 53 dX8_give_42 rfl (fun hc => ?_) (fun hc => ?_)
      · replace h := h.1 hc
        refine V_aload_n dX8_give_53 rfl rfl ?_
        refine V_getr dX8_give_54 fl_RX8_19 (hS.n 51 rfl) (hS.k 51 8 rfl) rfl (hS.r 51 6 55 rfl) ?_
        refine V_iload_n dX8_give_57 rfl rfl ?_
        obtain ⟨hb, h⟩ := h
        refine V_iald dX8_give_58 (hS.n 55 rfl) (hS.k 55 9 rfl) (by rw [(hS.z 55 24 rfl)]; exact hb) ?_
        refine V_iconst (v := 3) dX8_give_59 (by decide) ?_
        refine V_icmp_ne 71 dX8_give_60 rfl (fun hc => ?_) (fun hc => ?_)
        · replace h := h.1 hc
          refine V_aload_n dX8_give_71 rfl rfl ?_
          refine V_iload_n dX8_give_72 rfl rfl ?_
          refine V_callVv (st := []) [.int a1] dX8_give_73 ok_mX8_giveBag rfl ml_RX8_199 in_mX8_giveBag se_mX8_giveBag (hS.n 51 rfl) (hS.k 51 8 rfl) (by decide) rfl (Nat.le_of_ble_eq_true rfl) (by decide) (by decide) (by decide) (s_mX8_giveBag hS h) (fun I1 J9 h => ?_)
          obtain ⟨rfl, h⟩ := h
          exact V_vret dX8_give_76 rfl (by decide) (by decide) ⟨rfl, rfl, rfl, h⟩
        · replace h := h.2 hc
          refine V_aload_n dX8_give_63 rfl rfl ?_
          refine V_iload_n dX8_give_64 rfl rfl ?_
          refine V_callVv (st := []) [.int a1] dX8_give_65 ok_mX8_giveGroup rfl ml_RX8_196 in_mX8_giveGroup se_mX8_giveGroup (hS.n 51 rfl) (hS.k 51 8 rfl) (by decide) rfl (Nat.le_of_ble_eq_true rfl) (by decide) (by decide) (by decide) (s_mX8_giveGroup hS h) (fun I2 J9 h => ?_)
          obtain ⟨rfl, h⟩ := h
          refine V_goto 76 dX8_give_68 rfl ?_
          exact V_vret dX8_give_76 rfl (by decide) (by decide) ⟨rfl, rfl, rfl, h⟩
      · replace h := h.2 hc
        refine V_aload_n dX8_give_45 rfl rfl ?_
        refine V_iload_n dX8_give_46 rfl rfl ?_
        refine V_callVv (st := []) [.int a1] dX8_give_47 ok_mX8_giveJoin rfl ml_RX8_193 in_mX8_giveJoin se_mX8_giveJoin (hS.n 51 rfl) (hS.k 51 8 rfl) (by decide) rfl (Nat.le_of_ble_eq_true rfl) (by decide) (by decide) (by decide) (s_mX8_giveJoin hS h) (fun I3 J9 h => ?_)
        obtain ⟨rfl, h⟩ := h
        refine V_goto 76 dX8_give_50 rfl ?_
        exact V_vret dX8_give_76 rfl (by decide) (by decide) ⟨rfl, rfl, rfl, h⟩
    · replace h := h.2 hc
      refine V_aload_n dX8_give_27 rfl rfl ?_
      refine V_iload_n dX8_give_28 rfl rfl ?_
      refine V_callVv (st := []) [.int a1] dX8_give_29 ok_mX8_giveFilter rfl ml_RX8_190 in_mX8_giveFilter se_mX8_giveFilter (hS.n 51 rfl) (hS.k 51 8 rfl) (by decide) rfl (Nat.le_of_ble_eq_true rfl) (by decide) (by decide) (by decide) (s_mX8_giveFilter hS h) (fun I4 J9 h => ?_)
      obtain ⟨rfl, h⟩ := h
      refine V_goto 76 dX8_give_32 rfl ?_
      exact V_vret dX8_give_76 rfl (by decide) (by decide) ⟨rfl, rfl, rfl, h⟩
  · replace h := h.2 hc
    refine V_aload_n dX8_give_9 rfl rfl ?_
    refine V_iload_n dX8_give_10 rfl rfl ?_
    refine V_callVv (st := []) [.int a1] dX8_give_11 ok_mX8_giveScan rfl ml_RX8_187 in_mX8_giveScan se_mX8_giveScan (hS.n 51 rfl) (hS.k 51 8 rfl) (by decide) rfl (Nat.le_of_ble_eq_true rfl) (by decide) (by decide) (by decide) (s_mX8_giveScan hS h) (fun I5 J9 h => ?_)
    obtain ⟨rfl, h⟩ := h
    refine V_goto 76 dX8_give_14 rfl ?_
    exact V_vret dX8_give_76 rfl (by decide) (by decide) ⟨rfl, rfl, rfl, h⟩
def wX8_work_17 (a1 : Int32) (K88 : QI → QJ → Prop) (post : Int32 → QI → QJ → Prop) : Nat → Int32 → QI → QJ → Prop
  | 0, _, _, _ => False
  | n + 1, x2, I, J => ((x2 < 0 → (K88 I J)) ∧ (¬ x2 < 0 → (vp_in x2 24 ∧ (((I 67 (x2).toNatClampNeg) = 0 → (∀ v3 : Int32, v3 = (x2 + (-1)) → (wX8_work_17 a1 K88 post n v3 I J))) ∧ (¬ (I 67 (x2).toNatClampNeg) = 0 → (vp_in x2 24 ∧ (((I 55 (x2).toNatClampNeg) = 0 → (∀ v4 : Int32, v4 = (x2 + (-1)) → (wX8_work_17 a1 K88 post n v4 I J))) ∧ (¬ (I 55 (x2).toNatClampNeg) = 0 → (vp_in x2 24 ∧ (vp_in (I 56 (x2).toNatClampNeg) 24 ∧ (∀ I5 : QI, I5 = q_u2 I 67 ((I 56 (x2).toNatClampNeg)).toNatClampNeg 1 → (vp_in x2 24 ∧ ((¬ (I5 57 (x2).toNatClampNeg) = (-1) → (vp_in x2 24 ∧ (vp_in (I5 57 (x2).toNatClampNeg) 24 ∧ (∀ I6 : QI, I6 = q_u2 I5 67 ((I5 57 (x2).toNatClampNeg)).toNatClampNeg 1 → (∀ v7 : Int32, v7 = (x2 + (-1)) → (wX8_work_17 a1 K88 post n v7 I6 J)))))) ∧ ((I5 57 (x2).toNatClampNeg) = (-1) → (vp_in x2 24 ∧ (vp_in (I5 56 (x2).toNatClampNeg) 24 ∧ (∀ I8 : QI, I8 = q_u2 I5 67 ((I5 56 (x2).toNatClampNeg)).toNatClampNeg 1 → (∀ v9 : Int32, v9 = (x2 + (-1)) → (wX8_work_17 a1 K88 post n v9 I8 J)))))))))))))))))))
set_option maxRecDepth 100000 in
set_option maxHeartbeats 4000000 in
theorem swX8_work_17 {X : QX} {S : QS} {a1 : Int32} {K88 : QI → QJ → Prop} {post : Int32 → QI → QJ → Prop} (hS : Sh S) (hK88 : ∀ (I : QI) (J : QJ), K88 I J → V X mX8_work 5 0 0 (q_Pi S (fun r I2 J2 => post r I2 J2)) 88 [(0, .ref 51), (1, .int a1)] [] S I J 0 0) : ∀ (f : Nat) (x2 : Int32) (I : QI) (J : QJ), wX8_work_17 a1 K88 post f x2 I J → V X mX8_work 5 0 0 (q_Pi S (fun r I2 J2 => post r I2 J2)) 17 [(0, .ref 51), (1, .int a1), (2, .int x2)] [] S I J 0 0 := by
  intro f
  induction f with
  | zero => intro x2 I J h; exact h.elim
  | succ n ih =>
    intro x2 I J h
    replace h : ((x2 < 0 → (K88 I J)) ∧ (¬ x2 < 0 → (vp_in x2 24 ∧ (((I 67 (x2).toNatClampNeg) = 0 → (∀ v3 : Int32, v3 = (x2 + (-1)) → (wX8_work_17 a1 K88 post n v3 I J))) ∧ (¬ (I 67 (x2).toNatClampNeg) = 0 → (vp_in x2 24 ∧ (((I 55 (x2).toNatClampNeg) = 0 → (∀ v4 : Int32, v4 = (x2 + (-1)) → (wX8_work_17 a1 K88 post n v4 I J))) ∧ (¬ (I 55 (x2).toNatClampNeg) = 0 → (vp_in x2 24 ∧ (vp_in (I 56 (x2).toNatClampNeg) 24 ∧ (∀ I5 : QI, I5 = q_u2 I 67 ((I 56 (x2).toNatClampNeg)).toNatClampNeg 1 → (vp_in x2 24 ∧ ((¬ (I5 57 (x2).toNatClampNeg) = (-1) → (vp_in x2 24 ∧ (vp_in (I5 57 (x2).toNatClampNeg) 24 ∧ (∀ I6 : QI, I6 = q_u2 I5 67 ((I5 57 (x2).toNatClampNeg)).toNatClampNeg 1 → (∀ v7 : Int32, v7 = (x2 + (-1)) → (wX8_work_17 a1 K88 post n v7 I6 J)))))) ∧ ((I5 57 (x2).toNatClampNeg) = (-1) → (vp_in x2 24 ∧ (vp_in (I5 56 (x2).toNatClampNeg) 24 ∧ (∀ I8 : QI, I8 = q_u2 I5 67 ((I5 56 (x2).toNatClampNeg)).toNatClampNeg 1 → (∀ v9 : Int32, v9 = (x2 + (-1)) → (wX8_work_17 a1 K88 post n v9 I8 J))))))))))))))))))) := h
    refine V_iload_n dX8_work_17 rfl rfl ?_
    refine V_if_lt 88 dX8_work_18 rfl (fun hc => ?_) (fun hc => ?_)
    · replace h := h.1 hc
      refine V_sub (lo2 := [(0, .ref 51), (1, .int a1)]) [0, 1] rfl ?_
      exact hK88 _ _ h
    · replace h := h.2 hc
      refine V_aload_n dX8_work_21 rfl rfl ?_
      refine V_getr dX8_work_22 fl_RX8_61 (hS.n 51 rfl) (hS.k 51 8 rfl) rfl (hS.r 51 21 67 rfl) ?_
      refine V_iload_n dX8_work_25 rfl rfl ?_
      obtain ⟨hb, h⟩ := h
      refine V_zald dX8_work_26 (hS.n 67 rfl) (hS.k 67 11 rfl) (by rw [(hS.z 67 24 rfl)]; exact hb) ?_
      refine V_if_eq 82 dX8_work_27 rfl (fun hc => ?_) (fun hc => ?_)
      · replace h := h.1 hc
        obtain ⟨v3, e_v3⟩ : ∃ z : Int32, z = (x2 + (-1)) := ⟨_, rfl⟩
        replace h := h v3 e_v3
        refine V_iinc (lo2 := [(2, .int v3), (0, .ref 51), (1, .int a1)]) 2 dX8_work_82 rfl (v := v3) (by rw [e_v3]; first | done | rfl) (by decide) rfl ?_
        refine V_goto 17 dX8_work_85 rfl ?_
        refine V_sub (lo2 := [(0, .ref 51), (1, .int a1), (2, .int v3)]) [1, 2, 0] rfl ?_
        exact ih _ _ _ h
      · replace h := h.2 hc
        refine V_aload_n dX8_work_30 rfl rfl ?_
        refine V_getr dX8_work_31 fl_RX8_19 (hS.n 51 rfl) (hS.k 51 8 rfl) rfl (hS.r 51 6 55 rfl) ?_
        refine V_iload_n dX8_work_34 rfl rfl ?_
        obtain ⟨hb, h⟩ := h
        refine V_iald dX8_work_35 (hS.n 55 rfl) (hS.k 55 9 rfl) (by rw [(hS.z 55 24 rfl)]; exact hb) ?_
        refine V_if_eq 82 dX8_work_36 rfl (fun hc => ?_) (fun hc => ?_)
        · replace h := h.1 hc
          obtain ⟨v4, e_v4⟩ : ∃ z : Int32, z = (x2 + (-1)) := ⟨_, rfl⟩
          replace h := h v4 e_v4
          refine V_iinc (lo2 := [(2, .int v4), (0, .ref 51), (1, .int a1)]) 2 dX8_work_82 rfl (v := v4) (by rw [e_v4]; first | done | rfl) (by decide) rfl ?_
          refine V_goto 17 dX8_work_85 rfl ?_
          refine V_sub (lo2 := [(0, .ref 51), (1, .int a1), (2, .int v4)]) [1, 2, 0] rfl ?_
          exact ih _ _ _ h
        · replace h := h.2 hc
          refine V_aload_n dX8_work_39 rfl rfl ?_
          refine V_getr dX8_work_40 fl_RX8_61 (hS.n 51 rfl) (hS.k 51 8 rfl) rfl (hS.r 51 21 67 rfl) ?_
          refine V_aload_n dX8_work_43 rfl rfl ?_
          refine V_getr dX8_work_44 fl_RX8_22 (hS.n 51 rfl) (hS.k 51 8 rfl) rfl (hS.r 51 7 56 rfl) ?_
          refine V_iload_n dX8_work_47 rfl rfl ?_
          obtain ⟨hb, h⟩ := h
          refine V_iald dX8_work_48 (hS.n 56 rfl) (hS.k 56 9 rfl) (by rw [(hS.z 56 24 rfl)]; exact hb) ?_
          refine V_iconst (v := 1) dX8_work_49 (by decide) ?_
          obtain ⟨hb, h⟩ := h
          refine V_zast dX8_work_50 (hS.n 67 rfl) (hS.k 67 11 rfl) (by rw [(hS.z 67 24 rfl)]; exact hb) (q_vz (by decide)) ?_
          refine V_memI (fun I5 e_I5 => ?_)
          replace h := h I5 e_I5
          refine V_aload_n dX8_work_51 rfl rfl ?_
          refine V_getr dX8_work_52 fl_RX8_61 (hS.n 51 rfl) (hS.k 51 8 rfl) rfl (hS.r 51 21 67 rfl) ?_
          refine V_aload_n dX8_work_55 rfl rfl ?_
          refine V_getr dX8_work_56 fl_RX8_25 (hS.n 51 rfl) (hS.k 51 8 rfl) rfl (hS.r 51 8 57 rfl) ?_
          refine V_iload_n dX8_work_59 rfl rfl ?_
          obtain ⟨hb, h⟩ := h
          refine V_iald dX8_work_60 (hS.n 57 rfl) (hS.k 57 9 rfl) (by rw [(hS.z 57 24 rfl)]; exact hb) ?_
          refine V_iconst (v := (-1)) dX8_work_61 (by decide) ?_
          refine V_icmp_ne 74 dX8_work_62 rfl (fun hc => ?_) (fun hc => ?_)
          · replace h := h.1 hc
            refine V_aload_n dX8_work_74 rfl rfl ?_
            refine V_getr dX8_work_75 fl_RX8_25 (hS.n 51 rfl) (hS.k 51 8 rfl) rfl (hS.r 51 8 57 rfl) ?_
            refine V_iload_n dX8_work_78 rfl rfl ?_
            obtain ⟨hb, h⟩ := h
            refine V_iald dX8_work_79 (hS.n 57 rfl) (hS.k 57 9 rfl) (by rw [(hS.z 57 24 rfl)]; exact hb) ?_
            refine V_iconst (v := 1) dX8_work_80 (by decide) ?_
            obtain ⟨hb, h⟩ := h
            refine V_zast dX8_work_81 (hS.n 67 rfl) (hS.k 67 11 rfl) (by rw [(hS.z 67 24 rfl)]; exact hb) (q_vz (by decide)) ?_
            refine V_memI (fun I6 e_I6 => ?_)
            replace h := h I6 e_I6
            obtain ⟨v7, e_v7⟩ : ∃ z : Int32, z = (x2 + (-1)) := ⟨_, rfl⟩
            replace h := h v7 e_v7
            refine V_iinc (lo2 := [(2, .int v7), (0, .ref 51), (1, .int a1)]) 2 dX8_work_82 rfl (v := v7) (by rw [e_v7]; first | done | rfl) (by decide) rfl ?_
            refine V_goto 17 dX8_work_85 rfl ?_
            refine V_sub (lo2 := [(0, .ref 51), (1, .int a1), (2, .int v7)]) [1, 2, 0] rfl ?_
            exact ih _ _ _ h
          · replace h := h.2 hc
            refine V_aload_n dX8_work_65 rfl rfl ?_
            refine V_getr dX8_work_66 fl_RX8_22 (hS.n 51 rfl) (hS.k 51 8 rfl) rfl (hS.r 51 7 56 rfl) ?_
            refine V_iload_n dX8_work_69 rfl rfl ?_
            obtain ⟨hb, h⟩ := h
            refine V_iald dX8_work_70 (hS.n 56 rfl) (hS.k 56 9 rfl) (by rw [(hS.z 56 24 rfl)]; exact hb) ?_
            refine V_goto 80 dX8_work_71 rfl ?_
            refine V_iconst (v := 1) dX8_work_80 (by decide) ?_
            obtain ⟨hb, h⟩ := h
            refine V_zast dX8_work_81 (hS.n 67 rfl) (hS.k 67 11 rfl) (by rw [(hS.z 67 24 rfl)]; exact hb) (q_vz (by decide)) ?_
            refine V_memI (fun I8 e_I8 => ?_)
            replace h := h I8 e_I8
            obtain ⟨v9, e_v9⟩ : ∃ z : Int32, z = (x2 + (-1)) := ⟨_, rfl⟩
            replace h := h v9 e_v9
            refine V_iinc (lo2 := [(2, .int v9), (0, .ref 51), (1, .int a1)]) 2 dX8_work_82 rfl (v := v9) (by rw [e_v9]; first | done | rfl) (by decide) rfl ?_
            refine V_goto 17 dX8_work_85 rfl ?_
            refine V_sub (lo2 := [(0, .ref 51), (1, .int a1), (2, .int v9)]) [1, 2, 0] rfl ?_
            exact ih _ _ _ h
def wX8_work_90 (a1 : Int32) (K214 : QI → QJ → Prop) (post : Int32 → QI → QJ → Prop) : Nat → Int32 → QI → QJ → Prop
  | 0, _, _, _ => False
  | n + 1, x2, I, J => ((a1 < x2 → (K214 I J)) ∧ (¬ a1 < x2 → (vp_in x2 24 ∧ (∀ I12 : QI, I12 = q_u2 I 64 (x2).toNatClampNeg 0 → (vp_in x2 24 ∧ (((I12 67 (x2).toNatClampNeg) = 0 → (∀ v13 : Int32, v13 = (x2 + 1) → (wX8_work_90 a1 K214 post n v13 I12 J))) ∧ (¬ (I12 67 (x2).toNatClampNeg) = 0 → (wX8_give x2 I12 (fun I14 => (vp_in x2 24 ∧ ((¬ (I14 55 (x2).toNatClampNeg) = 0 → (vp_in x2 24 ∧ (vp_in x2 24 ∧ (vp_in (I14 56 (x2).toNatClampNeg) 24 ∧ (vp_in x2 24 ∧ ((¬ (I14 57 (x2).toNatClampNeg) = (-1) → (vp_in x2 24 ∧ (vp_in (I14 57 (x2).toNatClampNeg) 24 ∧ (vp_in x2 24 ∧ (∀ J15 : QJ, J15 = q_u2 J 65 (x2).toNatClampNeg (((((I14 64 (x2).toNatClampNeg)).toInt64) + (J 65 ((I14 56 (x2).toNatClampNeg)).toNatClampNeg)) + (J 65 ((I14 57 (x2).toNatClampNeg)).toNatClampNeg)) → (vp_in x2 24 ∧ (((I14 64 (x2).toNatClampNeg) ≤ 200 → (∀ v16 : Int32, v16 = (x2 + 1) → (wX8_work_90 a1 K214 post n v16 I14 J15))) ∧ (¬ (I14 64 (x2).toNatClampNeg) ≤ 200 → post 0 I14 J15)))))))) ∧ ((I14 57 (x2).toNatClampNeg) = (-1) → (vp_in x2 24 ∧ (∀ J17 : QJ, J17 = q_u2 J 65 (x2).toNatClampNeg (((((I14 64 (x2).toNatClampNeg)).toInt64) + (J 65 ((I14 56 (x2).toNatClampNeg)).toNatClampNeg)) + (Int64.ofNat ((0 : Fin 2) : Nat))) → (vp_in x2 24 ∧ (((I14 64 (x2).toNatClampNeg) ≤ 200 → (∀ v18 : Int32, v18 = (x2 + 1) → (wX8_work_90 a1 K214 post n v18 I14 J17))) ∧ (¬ (I14 64 (x2).toNatClampNeg) ≤ 200 → post 0 I14 J17)))))))))))) ∧ ((I14 55 (x2).toNatClampNeg) = 0 → (vp_in x2 24 ∧ (vp_in x2 24 ∧ (∀ J19 : QJ, J19 = q_u2 J 65 (x2).toNatClampNeg (((((I14 64 (x2).toNatClampNeg)).toInt64) + (Int64.ofNat ((0 : Fin 2) : Nat))) + (Int64.ofNat ((0 : Fin 2) : Nat))) → (vp_in x2 24 ∧ (((I14 64 (x2).toNatClampNeg) ≤ 200 → (∀ v20 : Int32, v20 = (x2 + 1) → (wX8_work_90 a1 K214 post n v20 I14 J19))) ∧ (¬ (I14 64 (x2).toNatClampNeg) ≤ 200 → post 0 I14 J19))))))))))))))))))
set_option maxRecDepth 100000 in
set_option maxHeartbeats 4000000 in
theorem swX8_work_90 {X : QX} {S : QS} {a1 : Int32} {K214 : QI → QJ → Prop} {post : Int32 → QI → QJ → Prop} (hS : Sh S) (hK214 : ∀ (I : QI) (J : QJ), K214 I J → V X mX8_work 5 0 0 (q_Pi S (fun r I2 J2 => post r I2 J2)) 214 [(0, .ref 51), (1, .int a1)] [] S I J 0 0) : ∀ (f : Nat) (x2 : Int32) (I : QI) (J : QJ), wX8_work_90 a1 K214 post f x2 I J → V X mX8_work 5 0 0 (q_Pi S (fun r I2 J2 => post r I2 J2)) 90 [(0, .ref 51), (1, .int a1), (2, .int x2)] [] S I J 0 0 := by
  intro f
  induction f with
  | zero => intro x2 I J h; exact h.elim
  | succ n ih =>
    intro x2 I J h
    replace h : ((a1 < x2 → (K214 I J)) ∧ (¬ a1 < x2 → (vp_in x2 24 ∧ (∀ I12 : QI, I12 = q_u2 I 64 (x2).toNatClampNeg 0 → (vp_in x2 24 ∧ (((I12 67 (x2).toNatClampNeg) = 0 → (∀ v13 : Int32, v13 = (x2 + 1) → (wX8_work_90 a1 K214 post n v13 I12 J))) ∧ (¬ (I12 67 (x2).toNatClampNeg) = 0 → (wX8_give x2 I12 (fun I14 => (vp_in x2 24 ∧ ((¬ (I14 55 (x2).toNatClampNeg) = 0 → (vp_in x2 24 ∧ (vp_in x2 24 ∧ (vp_in (I14 56 (x2).toNatClampNeg) 24 ∧ (vp_in x2 24 ∧ ((¬ (I14 57 (x2).toNatClampNeg) = (-1) → (vp_in x2 24 ∧ (vp_in (I14 57 (x2).toNatClampNeg) 24 ∧ (vp_in x2 24 ∧ (∀ J15 : QJ, J15 = q_u2 J 65 (x2).toNatClampNeg (((((I14 64 (x2).toNatClampNeg)).toInt64) + (J 65 ((I14 56 (x2).toNatClampNeg)).toNatClampNeg)) + (J 65 ((I14 57 (x2).toNatClampNeg)).toNatClampNeg)) → (vp_in x2 24 ∧ (((I14 64 (x2).toNatClampNeg) ≤ 200 → (∀ v16 : Int32, v16 = (x2 + 1) → (wX8_work_90 a1 K214 post n v16 I14 J15))) ∧ (¬ (I14 64 (x2).toNatClampNeg) ≤ 200 → post 0 I14 J15)))))))) ∧ ((I14 57 (x2).toNatClampNeg) = (-1) → (vp_in x2 24 ∧ (∀ J17 : QJ, J17 = q_u2 J 65 (x2).toNatClampNeg (((((I14 64 (x2).toNatClampNeg)).toInt64) + (J 65 ((I14 56 (x2).toNatClampNeg)).toNatClampNeg)) + (Int64.ofNat ((0 : Fin 2) : Nat))) → (vp_in x2 24 ∧ (((I14 64 (x2).toNatClampNeg) ≤ 200 → (∀ v18 : Int32, v18 = (x2 + 1) → (wX8_work_90 a1 K214 post n v18 I14 J17))) ∧ (¬ (I14 64 (x2).toNatClampNeg) ≤ 200 → post 0 I14 J17)))))))))))) ∧ ((I14 55 (x2).toNatClampNeg) = 0 → (vp_in x2 24 ∧ (vp_in x2 24 ∧ (∀ J19 : QJ, J19 = q_u2 J 65 (x2).toNatClampNeg (((((I14 64 (x2).toNatClampNeg)).toInt64) + (Int64.ofNat ((0 : Fin 2) : Nat))) + (Int64.ofNat ((0 : Fin 2) : Nat))) → (vp_in x2 24 ∧ (((I14 64 (x2).toNatClampNeg) ≤ 200 → (∀ v20 : Int32, v20 = (x2 + 1) → (wX8_work_90 a1 K214 post n v20 I14 J19))) ∧ (¬ (I14 64 (x2).toNatClampNeg) ≤ 200 → post 0 I14 J19)))))))))))))))))) := h
    refine V_iload_n dX8_work_90 rfl rfl ?_
    refine V_iload_n dX8_work_91 rfl rfl ?_
    refine V_icmp_gt 214 dX8_work_92 rfl (fun hc => ?_) (fun hc => ?_)
    · replace h := h.1 hc
      refine V_sub (lo2 := [(0, .ref 51), (1, .int a1)]) [0, 1] rfl ?_
      exact hK214 _ _ h
    · replace h := h.2 hc
      refine V_aload_n dX8_work_95 rfl rfl ?_
      refine V_getr dX8_work_96 fl_RX8_51 (hS.n 51 rfl) (hS.k 51 8 rfl) rfl (hS.r 51 18 64 rfl) ?_
      refine V_iload_n dX8_work_99 rfl rfl ?_
      refine V_iconst (v := 0) dX8_work_100 (by decide) ?_
      obtain ⟨hb, h⟩ := h
      refine V_iast dX8_work_101 (hS.n 64 rfl) (hS.k 64 9 rfl) (by rw [(hS.z 64 24 rfl)]; exact hb) ?_
      refine V_memI (fun I12 e_I12 => ?_)
      replace h := h I12 e_I12
      refine V_aload_n dX8_work_102 rfl rfl ?_
      refine V_getr dX8_work_103 fl_RX8_61 (hS.n 51 rfl) (hS.k 51 8 rfl) rfl (hS.r 51 21 67 rfl) ?_
      refine V_iload_n dX8_work_106 rfl rfl ?_
      obtain ⟨hb, h⟩ := h
      refine V_zald dX8_work_107 (hS.n 67 rfl) (hS.k 67 11 rfl) (by rw [(hS.z 67 24 rfl)]; exact hb) ?_
      refine V_if_eq 208 dX8_work_108 rfl (fun hc => ?_) (fun hc => ?_)
      · replace h := h.1 hc
        obtain ⟨v13, e_v13⟩ : ∃ z : Int32, z = (x2 + 1) := ⟨_, rfl⟩
        replace h := h v13 e_v13
        refine V_iinc (lo2 := [(2, .int v13), (0, .ref 51), (1, .int a1)]) 2 dX8_work_208 rfl (v := v13) (by rw [e_v13]; first | done | rfl) (by decide) rfl ?_
        refine V_goto 90 dX8_work_211 rfl ?_
        refine V_sub (lo2 := [(0, .ref 51), (1, .int a1), (2, .int v13)]) [1, 2, 0] rfl ?_
        exact ih _ _ _ h
      · replace h := h.2 hc
        refine V_aload_n dX8_work_111 rfl rfl ?_
        refine V_iload_n dX8_work_112 rfl rfl ?_
        refine V_callVv (st := []) [.int x2] dX8_work_113 ok_mX8_give rfl ml_RX8_183 in_mX8_give se_mX8_give (hS.n 51 rfl) (hS.k 51 8 rfl) (by decide) rfl (Nat.le_of_ble_eq_true rfl) (by decide) (by decide) (by decide) (s_mX8_give hS h) (fun I14 J9 h => ?_)
        obtain ⟨rfl, h⟩ := h
        refine V_aload_n dX8_work_116 rfl rfl ?_
        refine V_getr dX8_work_117 fl_RX8_19 (hS.n 51 rfl) (hS.k 51 8 rfl) rfl (hS.r 51 6 55 rfl) ?_
        refine V_iload_n dX8_work_120 rfl rfl ?_
        obtain ⟨hb, h⟩ := h
        refine V_iald dX8_work_121 (hS.n 55 rfl) (hS.k 55 9 rfl) (by rw [(hS.z 55 24 rfl)]; exact hb) ?_
        refine V_if_ne 129 dX8_work_122 rfl (fun hc => ?_) (fun hc => ?_)
        · replace h := h.1 hc
          refine V_iconst (v := 0) dX8_work_129 (by decide) ?_
          refine V_istore_n (lo2 := [(3, .int 0), (0, .ref 51), (1, .int a1), (2, .int x2)]) dX8_work_130 rfl (by decide) rfl ?_
          refine V_aload_n dX8_work_131 rfl rfl ?_
          refine V_getr dX8_work_132 fl_RX8_54 (hS.n 51 rfl) (hS.k 51 8 rfl) rfl (hS.r 51 19 65 rfl) ?_
          refine V_iload_n dX8_work_135 rfl rfl ?_
          refine V_aload_n dX8_work_136 rfl rfl ?_
          refine V_getr dX8_work_137 fl_RX8_51 (hS.n 51 rfl) (hS.k 51 8 rfl) rfl (hS.r 51 18 64 rfl) ?_
          refine V_iload_n dX8_work_140 rfl rfl ?_
          obtain ⟨hb, h⟩ := h
          refine V_iald dX8_work_141 (hS.n 64 rfl) (hS.k 64 9 rfl) (by rw [(hS.z 64 24 rfl)]; exact hb) ?_
          refine V_i2l dX8_work_142 ?_
          refine V_iload_n dX8_work_143 rfl rfl ?_
          refine V_if_eq 151 dX8_work_144 rfl (fun hc => ?_) (fun hc => ?_)
          · refine V_aload_n dX8_work_151 rfl rfl ?_
            refine V_getr dX8_work_152 fl_RX8_54 (hS.n 51 rfl) (hS.k 51 8 rfl) rfl (hS.r 51 19 65 rfl) ?_
            refine V_aload_n dX8_work_155 rfl rfl ?_
            refine V_getr dX8_work_156 fl_RX8_22 (hS.n 51 rfl) (hS.k 51 8 rfl) rfl (hS.r 51 7 56 rfl) ?_
            refine V_iload_n dX8_work_159 rfl rfl ?_
            obtain ⟨hb, h⟩ := h
            refine V_iald dX8_work_160 (hS.n 56 rfl) (hS.k 56 9 rfl) (by rw [(hS.z 56 24 rfl)]; exact hb) ?_
            obtain ⟨hb, h⟩ := h
            refine V_lald dX8_work_161 (hS.n 65 rfl) (hS.k 65 10 rfl) (by rw [(hS.z 65 24 rfl)]; exact hb) ?_
            refine V_ladd dX8_work_162 ?_
            refine V_iload_n dX8_work_163 rfl rfl ?_
            refine V_if_ne 177 dX8_work_164 rfl (fun hc => ?_) (fun hc => ?_)
            · first | exact absurd hc (by decide) | exact absurd (by decide) hc
            · refine V_aload_n dX8_work_167 rfl rfl ?_
              refine V_getr dX8_work_168 fl_RX8_25 (hS.n 51 rfl) (hS.k 51 8 rfl) rfl (hS.r 51 8 57 rfl) ?_
              refine V_iload_n dX8_work_171 rfl rfl ?_
              obtain ⟨hb, h⟩ := h
              refine V_iald dX8_work_172 (hS.n 57 rfl) (hS.k 57 9 rfl) (by rw [(hS.z 57 24 rfl)]; exact hb) ?_
              refine V_iconst (v := (-1)) dX8_work_173 (by decide) ?_
              refine V_icmp_ne 181 dX8_work_174 rfl (fun hc => ?_) (fun hc => ?_)
              · replace h := h.1 hc
                refine V_aload_n dX8_work_181 rfl rfl ?_
                refine V_getr dX8_work_182 fl_RX8_54 (hS.n 51 rfl) (hS.k 51 8 rfl) rfl (hS.r 51 19 65 rfl) ?_
                refine V_aload_n dX8_work_185 rfl rfl ?_
                refine V_getr dX8_work_186 fl_RX8_25 (hS.n 51 rfl) (hS.k 51 8 rfl) rfl (hS.r 51 8 57 rfl) ?_
                refine V_iload_n dX8_work_189 rfl rfl ?_
                obtain ⟨hb, h⟩ := h
                refine V_iald dX8_work_190 (hS.n 57 rfl) (hS.k 57 9 rfl) (by rw [(hS.z 57 24 rfl)]; exact hb) ?_
                obtain ⟨hb, h⟩ := h
                refine V_lald dX8_work_191 (hS.n 65 rfl) (hS.k 65 10 rfl) (by rw [(hS.z 65 24 rfl)]; exact hb) ?_
                refine V_ladd dX8_work_192 ?_
                obtain ⟨hb, h⟩ := h
                refine V_last dX8_work_193 (hS.n 65 rfl) (hS.k 65 10 rfl) (by rw [(hS.z 65 24 rfl)]; exact hb) ?_
                refine V_memJ (fun J15 e_J15 => ?_)
                replace h := h J15 e_J15
                refine V_aload_n dX8_work_194 rfl rfl ?_
                refine V_getr dX8_work_195 fl_RX8_51 (hS.n 51 rfl) (hS.k 51 8 rfl) rfl (hS.r 51 18 64 rfl) ?_
                refine V_iload_n dX8_work_198 rfl rfl ?_
                obtain ⟨hb, h⟩ := h
                refine V_iald dX8_work_199 (hS.n 64 rfl) (hS.k 64 9 rfl) (by rw [(hS.z 64 24 rfl)]; exact hb) ?_
                refine V_sipush (v := 200) dX8_work_200 (by decide) ?_
                refine V_icmp_le 208 dX8_work_203 rfl (fun hc => ?_) (fun hc => ?_)
                · replace h := h.1 hc
                  obtain ⟨v16, e_v16⟩ : ∃ z : Int32, z = (x2 + 1) := ⟨_, rfl⟩
                  replace h := h v16 e_v16
                  refine V_iinc (lo2 := [(2, .int v16), (3, .int 0), (0, .ref 51), (1, .int a1)]) 3 dX8_work_208 rfl (v := v16) (by rw [e_v16]; first | done | rfl) (by decide) rfl ?_
                  refine V_goto 90 dX8_work_211 rfl ?_
                  refine V_sub (lo2 := [(0, .ref 51), (1, .int a1), (2, .int v16)]) [2, 3, 0] rfl ?_
                  exact ih _ _ _ h
                · replace h := h.2 hc
                  refine V_iconst (v := 0) dX8_work_206 (by decide) ?_
                  exact V_zret dX8_work_207 rfl (by decide) (by decide) (by decide) ⟨_, rfl, rfl, h⟩
              · replace h := h.2 hc
                refine V_lconst dX8_work_177 ?_
                refine V_goto 192 dX8_work_178 rfl ?_
                refine V_ladd dX8_work_192 ?_
                obtain ⟨hb, h⟩ := h
                refine V_last dX8_work_193 (hS.n 65 rfl) (hS.k 65 10 rfl) (by rw [(hS.z 65 24 rfl)]; exact hb) ?_
                refine V_memJ (fun J17 e_J17 => ?_)
                replace h := h J17 e_J17
                refine V_aload_n dX8_work_194 rfl rfl ?_
                refine V_getr dX8_work_195 fl_RX8_51 (hS.n 51 rfl) (hS.k 51 8 rfl) rfl (hS.r 51 18 64 rfl) ?_
                refine V_iload_n dX8_work_198 rfl rfl ?_
                obtain ⟨hb, h⟩ := h
                refine V_iald dX8_work_199 (hS.n 64 rfl) (hS.k 64 9 rfl) (by rw [(hS.z 64 24 rfl)]; exact hb) ?_
                refine V_sipush (v := 200) dX8_work_200 (by decide) ?_
                refine V_icmp_le 208 dX8_work_203 rfl (fun hc => ?_) (fun hc => ?_)
                · replace h := h.1 hc
                  obtain ⟨v18, e_v18⟩ : ∃ z : Int32, z = (x2 + 1) := ⟨_, rfl⟩
                  replace h := h v18 e_v18
                  refine V_iinc (lo2 := [(2, .int v18), (3, .int 0), (0, .ref 51), (1, .int a1)]) 3 dX8_work_208 rfl (v := v18) (by rw [e_v18]; first | done | rfl) (by decide) rfl ?_
                  refine V_goto 90 dX8_work_211 rfl ?_
                  refine V_sub (lo2 := [(0, .ref 51), (1, .int a1), (2, .int v18)]) [2, 3, 0] rfl ?_
                  exact ih _ _ _ h
                · replace h := h.2 hc
                  refine V_iconst (v := 0) dX8_work_206 (by decide) ?_
                  exact V_zret dX8_work_207 rfl (by decide) (by decide) (by decide) ⟨_, rfl, rfl, h⟩
          · first | exact absurd hc (by decide) | exact absurd (by decide) hc
        · replace h := h.2 hc
          refine V_iconst (v := 1) dX8_work_125 (by decide) ?_
          refine V_goto 130 dX8_work_126 rfl ?_
          refine V_istore_n (lo2 := [(3, .int 1), (0, .ref 51), (1, .int a1), (2, .int x2)]) dX8_work_130 rfl (by decide) rfl ?_
          refine V_aload_n dX8_work_131 rfl rfl ?_
          refine V_getr dX8_work_132 fl_RX8_54 (hS.n 51 rfl) (hS.k 51 8 rfl) rfl (hS.r 51 19 65 rfl) ?_
          refine V_iload_n dX8_work_135 rfl rfl ?_
          refine V_aload_n dX8_work_136 rfl rfl ?_
          refine V_getr dX8_work_137 fl_RX8_51 (hS.n 51 rfl) (hS.k 51 8 rfl) rfl (hS.r 51 18 64 rfl) ?_
          refine V_iload_n dX8_work_140 rfl rfl ?_
          obtain ⟨hb, h⟩ := h
          refine V_iald dX8_work_141 (hS.n 64 rfl) (hS.k 64 9 rfl) (by rw [(hS.z 64 24 rfl)]; exact hb) ?_
          refine V_i2l dX8_work_142 ?_
          refine V_iload_n dX8_work_143 rfl rfl ?_
          refine V_if_eq 151 dX8_work_144 rfl (fun hc => ?_) (fun hc => ?_)
          · first | exact absurd hc (by decide) | exact absurd (by decide) hc
          · refine V_lconst dX8_work_147 ?_
            refine V_goto 162 dX8_work_148 rfl ?_
            refine V_ladd dX8_work_162 ?_
            refine V_iload_n dX8_work_163 rfl rfl ?_
            refine V_if_ne 177 dX8_work_164 rfl (fun hc => ?_) (fun hc => ?_)
            · refine V_lconst dX8_work_177 ?_
              refine V_goto 192 dX8_work_178 rfl ?_
              refine V_ladd dX8_work_192 ?_
              obtain ⟨hb, h⟩ := h
              refine V_last dX8_work_193 (hS.n 65 rfl) (hS.k 65 10 rfl) (by rw [(hS.z 65 24 rfl)]; exact hb) ?_
              refine V_memJ (fun J19 e_J19 => ?_)
              replace h := h J19 e_J19
              refine V_aload_n dX8_work_194 rfl rfl ?_
              refine V_getr dX8_work_195 fl_RX8_51 (hS.n 51 rfl) (hS.k 51 8 rfl) rfl (hS.r 51 18 64 rfl) ?_
              refine V_iload_n dX8_work_198 rfl rfl ?_
              obtain ⟨hb, h⟩ := h
              refine V_iald dX8_work_199 (hS.n 64 rfl) (hS.k 64 9 rfl) (by rw [(hS.z 64 24 rfl)]; exact hb) ?_
              refine V_sipush (v := 200) dX8_work_200 (by decide) ?_
              refine V_icmp_le 208 dX8_work_203 rfl (fun hc => ?_) (fun hc => ?_)
              · replace h := h.1 hc
                obtain ⟨v20, e_v20⟩ : ∃ z : Int32, z = (x2 + 1) := ⟨_, rfl⟩
                replace h := h v20 e_v20
                refine V_iinc (lo2 := [(2, .int v20), (3, .int 1), (0, .ref 51), (1, .int a1)]) 3 dX8_work_208 rfl (v := v20) (by rw [e_v20]; first | done | rfl) (by decide) rfl ?_
                refine V_goto 90 dX8_work_211 rfl ?_
                refine V_sub (lo2 := [(0, .ref 51), (1, .int a1), (2, .int v20)]) [2, 3, 0] rfl ?_
                exact ih _ _ _ h
              · replace h := h.2 hc
                refine V_iconst (v := 0) dX8_work_206 (by decide) ?_
                exact V_zret dX8_work_207 rfl (by decide) (by decide) (by decide) ⟨_, rfl, rfl, h⟩
            · first | exact absurd hc (by decide) | exact absurd (by decide) hc
def wX8_work (a1 : Int32) (I : QI) (J : QJ) (post : Int32 → QI → QJ → Prop) : Prop := (wJ7_fill 67 24 0 I (fun I1 => (vp_in a1 24 ∧ (∀ I2 : QI, I2 = q_u2 I1 67 (a1).toNatClampNeg 1 → (∃ f : Nat, wX8_work_17 a1 (fun I10 J11 => (∃ f : Nat, wX8_work_90 a1 (fun I21 J22 => (vp_in a1 24 ∧ ((0 < (lg_cmp (J22 65 (a1).toNatClampNeg) (((I21 51 13)).toInt64)) → post 0 I21 J22) ∧ (¬ 0 < (lg_cmp (J22 65 (a1).toNatClampNeg) (((I21 51 13)).toInt64)) → post 1 I21 J22)))) post f 0 I10 J11)) post f a1 I2 J)))))
set_option maxRecDepth 100000 in
set_option maxHeartbeats 4000000 in
theorem s_mX8_work {X : QX} {S : QS} {a1 : Int32} {I : QI} {J : QJ} {post : Int32 → QI → QJ → Prop} (hS : Sh S) (h : wX8_work a1 I J post) : CX X mX8_work 5 0 0 [.ref 51, .int a1] S I J (q_Pi S (fun r I2 J2 => post r I2 J2)) := by
  refine CX.of (lo := [(0, .ref 51), (1, .int a1)]) ok_mX8_work rfl (Nat.le_of_ble_eq_true rfl) rfl ?_
  replace h : (wJ7_fill 67 24 0 I (fun I1 => (vp_in a1 24 ∧ (∀ I2 : QI, I2 = q_u2 I1 67 (a1).toNatClampNeg 1 → (∃ f : Nat, wX8_work_17 a1 (fun I10 J11 => (∃ f : Nat, wX8_work_90 a1 (fun I21 J22 => (vp_in a1 24 ∧ ((0 < (lg_cmp (J22 65 (a1).toNatClampNeg) (((I21 51 13)).toInt64)) → post 0 I21 J22) ∧ (¬ 0 < (lg_cmp (J22 65 (a1).toNatClampNeg) (((I21 51 13)).toInt64)) → post 1 I21 J22)))) post f 0 I10 J11)) post f a1 I2 J))))) := h
  refine V_aload_n dX8_work_0 rfl rfl ?_
  refine V_getr dX8_work_1 fl_RX8_61 (hS.n 51 rfl) (hS.k 51 8 rfl) rfl (hS.r 51 21 67 rfl) ?_
  refine V_iconst (v := 0) dX8_work_4 (by decide) ?_
  refine V_callSv (st := []) [.ref 67, .int 0] dX8_work_5 ok_mJ7_fill_49daa rfl ml_RX8_166 st_mJ7_fill_49daa (Nat.le_of_ble_eq_true rfl) (by decide) (by decide) (by decide) (s_mJ7_fill (hS.n 67 rfl) (hS.k 67 11 rfl) (hS.z 67 24 rfl) (by decide) h) (fun I1 J9 h => ?_)
  obtain ⟨rfl, h⟩ := h
  refine V_aload_n dX8_work_8 rfl rfl ?_
  refine V_getr dX8_work_9 fl_RX8_61 (hS.n 51 rfl) (hS.k 51 8 rfl) rfl (hS.r 51 21 67 rfl) ?_
  refine V_iload_n dX8_work_12 rfl rfl ?_
  refine V_iconst (v := 1) dX8_work_13 (by decide) ?_
  obtain ⟨hb, h⟩ := h
  refine V_zast dX8_work_14 (hS.n 67 rfl) (hS.k 67 11 rfl) (by rw [(hS.z 67 24 rfl)]; exact hb) (q_vz (by decide)) ?_
  refine V_memI (fun I2 e_I2 => ?_)
  replace h := h I2 e_I2
  refine V_iload_n dX8_work_15 rfl rfl ?_
  refine V_istore_n (lo2 := [(2, .int a1), (0, .ref 51), (1, .int a1)]) dX8_work_16 rfl (by decide) rfl ?_
  refine V_sub (lo2 := [(0, .ref 51), (1, .int a1), (2, .int a1)]) [1, 2, 0] rfl ?_
  obtain ⟨f9, h⟩ := h
  refine swX8_work_17 hS ?_ f9 _ _ _ h
  · intro I10 J11 h
    refine V_iconst (v := 0) dX8_work_88 (by decide) ?_
    refine V_istore_n (lo2 := [(2, .int 0), (0, .ref 51), (1, .int a1)]) dX8_work_89 rfl (by decide) rfl ?_
    refine V_sub (lo2 := [(0, .ref 51), (1, .int a1), (2, .int 0)]) [1, 2, 0] rfl ?_
    obtain ⟨f9, h⟩ := h
    refine swX8_work_90 hS ?_ f9 _ _ _ h
    · intro I21 J22 h
      refine V_aload_n dX8_work_214 rfl rfl ?_
      refine V_getr dX8_work_215 fl_RX8_54 (hS.n 51 rfl) (hS.k 51 8 rfl) rfl (hS.r 51 19 65 rfl) ?_
      refine V_iload_n dX8_work_218 rfl rfl ?_
      obtain ⟨hb, h⟩ := h
      refine V_lald dX8_work_219 (hS.n 65 rfl) (hS.k 65 10 rfl) (by rw [(hS.z 65 24 rfl)]; exact hb) ?_
      refine V_aload_n dX8_work_220 rfl rfl ?_
      refine V_geti dX8_work_221 fl_RX8_41 (hS.n 51 rfl) (hS.k 51 8 rfl) rfl ?_
      refine V_i2l dX8_work_224 ?_
      refine V_lcmp dX8_work_225 ?_
      refine V_if_gt 233 dX8_work_226 rfl (fun hc => ?_) (fun hc => ?_)
      · replace h := h.1 hc
        refine V_iconst (v := 0) dX8_work_233 (by decide) ?_
        exact V_zret dX8_work_234 rfl (by decide) (by decide) (by decide) ⟨_, rfl, rfl, h⟩
      · replace h := h.2 hc
        refine V_iconst (v := 1) dX8_work_229 (by decide) ?_
        refine V_goto 234 dX8_work_230 rfl ?_
        exact V_zret dX8_work_234 rfl (by decide) (by decide) (by decide) ⟨_, rfl, rfl, h⟩
def wX8_rows (a1 : Int32) (I : QI) (J : QJ) (post : Int32 → QI → QJ → Prop) : Prop := (wX8_isNode a1 I (fun r1 => ((¬ r1 = 0 → (wX8_work a1 I J (fun r4 I2 J3 => ((r4 = 0 → (wX8_goesWell 2 I2 (fun r6 I5 => ((r6 = 0 → post 0 I5 J3) ∧ (¬ r6 = 0 → (vp_in a1 24 ∧ post (I5 64 (a1).toNatClampNeg) I5 J3)))))) ∧ (¬ r4 = 0 → (wX8_goesWell 0 I2 (fun r8 I7 => ((r8 = 0 → post 0 I7 J3) ∧ (¬ r8 = 0 → (vp_in a1 24 ∧ post (I7 64 (a1).toNatClampNeg) I7 J3)))))))))) ∧ (r1 = 0 → (wX8_goesWell 1 I (fun r10 I9 => ((r10 = 0 → post 0 I9 J) ∧ (¬ r10 = 0 → (vp_in a1 24 ∧ post (I9 64 (a1).toNatClampNeg) I9 J)))))))))
set_option maxRecDepth 100000 in
set_option maxHeartbeats 4000000 in
theorem s_mX8_rows {X : QX} {S : QS} {a1 : Int32} {I : QI} {J : QJ} {post : Int32 → QI → QJ → Prop} (hS : Sh S) (h : wX8_rows a1 I J post) : CX X mX8_rows 6 0 0 [.ref 51, .int a1] S I J (q_Pi S (fun r I2 J2 => post r I2 J2)) := by
  refine CX.of (lo := [(0, .ref 51), (1, .int a1)]) ok_mX8_rows rfl (Nat.le_of_ble_eq_true rfl) rfl ?_
  replace h : (wX8_isNode a1 I (fun r1 => ((¬ r1 = 0 → (wX8_work a1 I J (fun r4 I2 J3 => ((r4 = 0 → (wX8_goesWell 2 I2 (fun r6 I5 => ((r6 = 0 → post 0 I5 J3) ∧ (¬ r6 = 0 → (vp_in a1 24 ∧ post (I5 64 (a1).toNatClampNeg) I5 J3)))))) ∧ (¬ r4 = 0 → (wX8_goesWell 0 I2 (fun r8 I7 => ((r8 = 0 → post 0 I7 J3) ∧ (¬ r8 = 0 → (vp_in a1 24 ∧ post (I7 64 (a1).toNatClampNeg) I7 J3)))))))))) ∧ (r1 = 0 → (wX8_goesWell 1 I (fun r10 I9 => ((r10 = 0 → post 0 I9 J) ∧ (¬ r10 = 0 → (vp_in a1 24 ∧ post (I9 64 (a1).toNatClampNeg) I9 J))))))))) := h
  refine V_aload_n dX8_rows_0 rfl rfl ?_
  refine V_iload_n dX8_rows_1 rfl rfl ?_
  refine V_callVi (st := []) [.int a1] dX8_rows_2 ok_mX8_isNode rfl ml_RX8_121 in_mX8_isNode se_mX8_isNode (hS.n 51 rfl) (hS.k 51 8 rfl) (by decide) rfl (Nat.le_of_ble_eq_true rfl) (by decide) (by decide) (by decide) (s_mX8_isNode hS h) (fun r1 I9 J9 h => ?_)
  obtain ⟨rfl, rfl, h⟩ := h
  refine V_istore_n (lo2 := [(2, .int r1), (0, .ref 51), (1, .int a1)]) dX8_rows_5 rfl (by decide) rfl ?_
  refine V_aload_n dX8_rows_6 rfl rfl ?_
  refine V_iload_n dX8_rows_7 rfl rfl ?_
  refine V_if_ne 15 dX8_rows_8 rfl (fun hc => ?_) (fun hc => ?_)
  · replace h := h.1 hc
    refine V_aload_n dX8_rows_15 rfl rfl ?_
    refine V_iload_n dX8_rows_16 rfl rfl ?_
    refine V_callVi (st := [.ref 51]) [.int a1] dX8_rows_17 ok_mX8_work rfl ml_RX8_202 in_mX8_work se_mX8_work (hS.n 51 rfl) (hS.k 51 8 rfl) (by decide) rfl (Nat.le_of_ble_eq_true rfl) (by decide) (by decide) (by decide) (s_mX8_work hS h) (fun r4 I2 J3 h => ?_)
    refine V_if_eq 27 dX8_rows_20 rfl (fun hc => ?_) (fun hc => ?_)
    · replace h := h.1 hc
      refine V_iconst (v := 2) dX8_rows_27 (by decide) ?_
      refine V_callVi (st := []) [.int 2] dX8_rows_28 ok_mX8_goesWell rfl ml_RX8_112 in_mX8_goesWell se_mX8_goesWell (hS.n 51 rfl) (hS.k 51 8 rfl) (by decide) rfl (Nat.le_of_ble_eq_true rfl) (by decide) (by decide) (by decide) (s_mX8_goesWell hS h) (fun r6 I5 J9 h => ?_)
      obtain ⟨rfl, h⟩ := h
      refine V_if_eq 43 dX8_rows_31 rfl (fun hc => ?_) (fun hc => ?_)
      · replace h := h.1 hc
        refine V_iconst (v := 0) dX8_rows_43 (by decide) ?_
        exact V_iret dX8_rows_44 rfl (by decide) (by decide) ⟨_, rfl, rfl, h⟩
      · replace h := h.2 hc
        refine V_aload_n dX8_rows_34 rfl rfl ?_
        refine V_getr dX8_rows_35 fl_RX8_51 (hS.n 51 rfl) (hS.k 51 8 rfl) rfl (hS.r 51 18 64 rfl) ?_
        refine V_iload_n dX8_rows_38 rfl rfl ?_
        obtain ⟨hb, h⟩ := h
        refine V_iald dX8_rows_39 (hS.n 64 rfl) (hS.k 64 9 rfl) (by rw [(hS.z 64 24 rfl)]; exact hb) ?_
        refine V_goto 44 dX8_rows_40 rfl ?_
        exact V_iret dX8_rows_44 rfl (by decide) (by decide) ⟨_, rfl, rfl, h⟩
    · replace h := h.2 hc
      refine V_iconst (v := 0) dX8_rows_23 (by decide) ?_
      refine V_goto 28 dX8_rows_24 rfl ?_
      refine V_callVi (st := []) [.int 0] dX8_rows_28 ok_mX8_goesWell rfl ml_RX8_112 in_mX8_goesWell se_mX8_goesWell (hS.n 51 rfl) (hS.k 51 8 rfl) (by decide) rfl (Nat.le_of_ble_eq_true rfl) (by decide) (by decide) (by decide) (s_mX8_goesWell hS h) (fun r8 I7 J9 h => ?_)
      obtain ⟨rfl, h⟩ := h
      refine V_if_eq 43 dX8_rows_31 rfl (fun hc => ?_) (fun hc => ?_)
      · replace h := h.1 hc
        refine V_iconst (v := 0) dX8_rows_43 (by decide) ?_
        exact V_iret dX8_rows_44 rfl (by decide) (by decide) ⟨_, rfl, rfl, h⟩
      · replace h := h.2 hc
        refine V_aload_n dX8_rows_34 rfl rfl ?_
        refine V_getr dX8_rows_35 fl_RX8_51 (hS.n 51 rfl) (hS.k 51 8 rfl) rfl (hS.r 51 18 64 rfl) ?_
        refine V_iload_n dX8_rows_38 rfl rfl ?_
        obtain ⟨hb, h⟩ := h
        refine V_iald dX8_rows_39 (hS.n 64 rfl) (hS.k 64 9 rfl) (by rw [(hS.z 64 24 rfl)]; exact hb) ?_
        refine V_goto 44 dX8_rows_40 rfl ?_
        exact V_iret dX8_rows_44 rfl (by decide) (by decide) ⟨_, rfl, rfl, h⟩
  · replace h := h.2 hc
    refine V_iconst (v := 1) dX8_rows_11 (by decide) ?_
    refine V_goto 28 dX8_rows_12 rfl ?_
    refine V_callVi (st := []) [.int 1] dX8_rows_28 ok_mX8_goesWell rfl ml_RX8_112 in_mX8_goesWell se_mX8_goesWell (hS.n 51 rfl) (hS.k 51 8 rfl) (by decide) rfl (Nat.le_of_ble_eq_true rfl) (by decide) (by decide) (by decide) (s_mX8_goesWell hS h) (fun r10 I9 J9 h => ?_)
    obtain ⟨rfl, h⟩ := h
    refine V_if_eq 43 dX8_rows_31 rfl (fun hc => ?_) (fun hc => ?_)
    · replace h := h.1 hc
      refine V_iconst (v := 0) dX8_rows_43 (by decide) ?_
      exact V_iret dX8_rows_44 rfl (by decide) (by decide) ⟨_, rfl, rfl, h⟩
    · replace h := h.2 hc
      refine V_aload_n dX8_rows_34 rfl rfl ?_
      refine V_getr dX8_rows_35 fl_RX8_51 (hS.n 51 rfl) (hS.k 51 8 rfl) rfl (hS.r 51 18 64 rfl) ?_
      refine V_iload_n dX8_rows_38 rfl rfl ?_
      obtain ⟨hb, h⟩ := h
      refine V_iald dX8_rows_39 (hS.n 64 rfl) (hS.k 64 9 rfl) (by rw [(hS.z 64 24 rfl)]; exact hb) ?_
      refine V_goto 44 dX8_rows_40 rfl ?_
      exact V_iret dX8_rows_44 rfl (by decide) (by decide) ⟨_, rfl, rfl, h⟩
def wX8_cell (a1 : Int32) (a2 : Int32) (a3 : Int32) (I : QI) (J : QJ) (post : Int32 → QI → QJ → Prop) : Prop := (wX8_isNodeColumn a1 a3 I (fun r1 => ((r1 = 0 → (wX8_goesWell 1 I (fun r3 I2 => ((r3 = 0 → post 0 I2 J) ∧ (¬ r3 = 0 → (wX8_cellOf a1 a2 a3 I2 (fun r4 => post r4 I2 J))))))) ∧ (¬ r1 = 0 → ((a2 < 0 → (wX8_goesWell 1 I (fun r6 I5 => ((r6 = 0 → post 0 I5 J) ∧ (¬ r6 = 0 → (wX8_cellOf a1 a2 a3 I5 (fun r7 => post r7 I5 J))))))) ∧ (¬ a2 < 0 → (wX8_work a1 I J (fun r10 I8 J9 => ((¬ r10 = 0 → (vp_in a1 24 ∧ (((I8 64 (a1).toNatClampNeg) ≤ a2 → (wX8_goesWell 1 I8 (fun r12 I11 => ((r12 = 0 → post 0 I11 J9) ∧ (¬ r12 = 0 → (wX8_cellOf a1 a2 a3 I11 (fun r13 => post r13 I11 J9))))))) ∧ (¬ (I8 64 (a1).toNatClampNeg) ≤ a2 → (wX8_goesWell 0 I8 (fun r15 I14 => ((r15 = 0 → post 0 I14 J9) ∧ (¬ r15 = 0 → (wX8_cellOf a1 a2 a3 I14 (fun r16 => post r16 I14 J9)))))))))) ∧ (r10 = 0 → (wX8_goesWell 2 I8 (fun r18 I17 => ((r18 = 0 → post 0 I17 J9) ∧ (¬ r18 = 0 → (wX8_cellOf a1 a2 a3 I17 (fun r19 => post r19 I17 J9))))))))))))))))
set_option maxRecDepth 100000 in
set_option maxHeartbeats 4000000 in
theorem s_mX8_cell {X : QX} {S : QS} {a1 : Int32} {a2 : Int32} {a3 : Int32} {I : QI} {J : QJ} {post : Int32 → QI → QJ → Prop} (hS : Sh S) (h : wX8_cell a1 a2 a3 I J post) : CX X mX8_cell 6 0 0 [.ref 51, .int a1, .int a2, .int a3] S I J (q_Pi S (fun r I2 J2 => post r I2 J2)) := by
  refine CX.of (lo := [(0, .ref 51), (1, .int a1), (2, .int a2), (3, .int a3)]) ok_mX8_cell rfl (Nat.le_of_ble_eq_true rfl) rfl ?_
  replace h : (wX8_isNodeColumn a1 a3 I (fun r1 => ((r1 = 0 → (wX8_goesWell 1 I (fun r3 I2 => ((r3 = 0 → post 0 I2 J) ∧ (¬ r3 = 0 → (wX8_cellOf a1 a2 a3 I2 (fun r4 => post r4 I2 J))))))) ∧ (¬ r1 = 0 → ((a2 < 0 → (wX8_goesWell 1 I (fun r6 I5 => ((r6 = 0 → post 0 I5 J) ∧ (¬ r6 = 0 → (wX8_cellOf a1 a2 a3 I5 (fun r7 => post r7 I5 J))))))) ∧ (¬ a2 < 0 → (wX8_work a1 I J (fun r10 I8 J9 => ((¬ r10 = 0 → (vp_in a1 24 ∧ (((I8 64 (a1).toNatClampNeg) ≤ a2 → (wX8_goesWell 1 I8 (fun r12 I11 => ((r12 = 0 → post 0 I11 J9) ∧ (¬ r12 = 0 → (wX8_cellOf a1 a2 a3 I11 (fun r13 => post r13 I11 J9))))))) ∧ (¬ (I8 64 (a1).toNatClampNeg) ≤ a2 → (wX8_goesWell 0 I8 (fun r15 I14 => ((r15 = 0 → post 0 I14 J9) ∧ (¬ r15 = 0 → (wX8_cellOf a1 a2 a3 I14 (fun r16 => post r16 I14 J9)))))))))) ∧ (r10 = 0 → (wX8_goesWell 2 I8 (fun r18 I17 => ((r18 = 0 → post 0 I17 J9) ∧ (¬ r18 = 0 → (wX8_cellOf a1 a2 a3 I17 (fun r19 => post r19 I17 J9)))))))))))))))) := h
  refine V_aload_n dX8_cell_0 rfl rfl ?_
  refine V_iload_n dX8_cell_1 rfl rfl ?_
  refine V_iload_n dX8_cell_2 rfl rfl ?_
  refine V_callVi (st := []) [.int a1, .int a3] dX8_cell_3 ok_mX8_isNodeColumn rfl ml_RX8_140 in_mX8_isNodeColumn se_mX8_isNodeColumn (hS.n 51 rfl) (hS.k 51 8 rfl) (by decide) rfl (Nat.le_of_ble_eq_true rfl) (by decide) (by decide) (by decide) (s_mX8_isNodeColumn hS h) (fun r1 I9 J9 h => ?_)
  obtain ⟨rfl, rfl, h⟩ := h
  refine V_if_eq 17 dX8_cell_6 rfl (fun hc => ?_) (fun hc => ?_)
  · replace h := h.1 hc
    refine V_iconst (v := 0) dX8_cell_17 (by decide) ?_
    refine V_istore (lo2 := [(4, .int 0), (0, .ref 51), (1, .int a1), (2, .int a2), (3, .int a3)]) dX8_cell_18 (by decide) rfl ?_
    refine V_aload_n dX8_cell_20 rfl rfl ?_
    refine V_iload dX8_cell_21 rfl ?_
    refine V_if_ne 30 dX8_cell_23 rfl (fun hc => ?_) (fun hc => ?_)
    · first | exact absurd hc (by decide) | exact absurd (by decide) hc
    · refine V_iconst (v := 1) dX8_cell_26 (by decide) ?_
      refine V_goto 57 dX8_cell_27 rfl ?_
      refine V_callVi (st := []) [.int 1] dX8_cell_57 ok_mX8_goesWell rfl ml_RX8_112 in_mX8_goesWell se_mX8_goesWell (hS.n 51 rfl) (hS.k 51 8 rfl) (by decide) rfl (Nat.le_of_ble_eq_true rfl) (by decide) (by decide) (by decide) (s_mX8_goesWell hS h) (fun r3 I2 J9 h => ?_)
      obtain ⟨rfl, h⟩ := h
      refine V_if_eq 73 dX8_cell_60 rfl (fun hc => ?_) (fun hc => ?_)
      · replace h := h.1 hc
        refine V_iconst (v := 0) dX8_cell_73 (by decide) ?_
        exact V_iret dX8_cell_74 rfl (by decide) (by decide) ⟨_, rfl, rfl, h⟩
      · replace h := h.2 hc
        refine V_aload_n dX8_cell_63 rfl rfl ?_
        refine V_iload_n dX8_cell_64 rfl rfl ?_
        refine V_iload_n dX8_cell_65 rfl rfl ?_
        refine V_iload_n dX8_cell_66 rfl rfl ?_
        refine V_callVi (st := []) [.int a1, .int a2, .int a3] dX8_cell_67 ok_mX8_cellOf rfl ml_RX8_144 in_mX8_cellOf se_mX8_cellOf (hS.n 51 rfl) (hS.k 51 8 rfl) (by decide) rfl (Nat.le_of_ble_eq_true rfl) (by decide) (by decide) (by decide) (s_mX8_cellOf hS h) (fun r4 I9 J9 h => ?_)
        obtain ⟨rfl, rfl, h⟩ := h
        refine V_goto 74 dX8_cell_70 rfl ?_
        exact V_iret dX8_cell_74 rfl (by decide) (by decide) ⟨_, rfl, rfl, h⟩
  · replace h := h.2 hc
    refine V_iload_n dX8_cell_9 rfl rfl ?_
    refine V_if_lt 17 dX8_cell_10 rfl (fun hc => ?_) (fun hc => ?_)
    · replace h := h.1 hc
      refine V_iconst (v := 0) dX8_cell_17 (by decide) ?_
      refine V_istore (lo2 := [(4, .int 0), (0, .ref 51), (1, .int a1), (2, .int a2), (3, .int a3)]) dX8_cell_18 (by decide) rfl ?_
      refine V_aload_n dX8_cell_20 rfl rfl ?_
      refine V_iload dX8_cell_21 rfl ?_
      refine V_if_ne 30 dX8_cell_23 rfl (fun hc => ?_) (fun hc => ?_)
      · first | exact absurd hc (by decide) | exact absurd (by decide) hc
      · refine V_iconst (v := 1) dX8_cell_26 (by decide) ?_
        refine V_goto 57 dX8_cell_27 rfl ?_
        refine V_callVi (st := []) [.int 1] dX8_cell_57 ok_mX8_goesWell rfl ml_RX8_112 in_mX8_goesWell se_mX8_goesWell (hS.n 51 rfl) (hS.k 51 8 rfl) (by decide) rfl (Nat.le_of_ble_eq_true rfl) (by decide) (by decide) (by decide) (s_mX8_goesWell hS h) (fun r6 I5 J9 h => ?_)
        obtain ⟨rfl, h⟩ := h
        refine V_if_eq 73 dX8_cell_60 rfl (fun hc => ?_) (fun hc => ?_)
        · replace h := h.1 hc
          refine V_iconst (v := 0) dX8_cell_73 (by decide) ?_
          exact V_iret dX8_cell_74 rfl (by decide) (by decide) ⟨_, rfl, rfl, h⟩
        · replace h := h.2 hc
          refine V_aload_n dX8_cell_63 rfl rfl ?_
          refine V_iload_n dX8_cell_64 rfl rfl ?_
          refine V_iload_n dX8_cell_65 rfl rfl ?_
          refine V_iload_n dX8_cell_66 rfl rfl ?_
          refine V_callVi (st := []) [.int a1, .int a2, .int a3] dX8_cell_67 ok_mX8_cellOf rfl ml_RX8_144 in_mX8_cellOf se_mX8_cellOf (hS.n 51 rfl) (hS.k 51 8 rfl) (by decide) rfl (Nat.le_of_ble_eq_true rfl) (by decide) (by decide) (by decide) (s_mX8_cellOf hS h) (fun r7 I9 J9 h => ?_)
          obtain ⟨rfl, rfl, h⟩ := h
          refine V_goto 74 dX8_cell_70 rfl ?_
          exact V_iret dX8_cell_74 rfl (by decide) (by decide) ⟨_, rfl, rfl, h⟩
    · replace h := h.2 hc
      refine V_iconst (v := 1) dX8_cell_13 (by decide) ?_
      refine V_goto 18 dX8_cell_14 rfl ?_
      refine V_istore (lo2 := [(4, .int 1), (0, .ref 51), (1, .int a1), (2, .int a2), (3, .int a3)]) dX8_cell_18 (by decide) rfl ?_
      refine V_aload_n dX8_cell_20 rfl rfl ?_
      refine V_iload dX8_cell_21 rfl ?_
      refine V_if_ne 30 dX8_cell_23 rfl (fun hc => ?_) (fun hc => ?_)
      · refine V_aload_n dX8_cell_30 rfl rfl ?_
        refine V_iload_n dX8_cell_31 rfl rfl ?_
        refine V_callVi (st := [.ref 51]) [.int a1] dX8_cell_32 ok_mX8_work rfl ml_RX8_202 in_mX8_work se_mX8_work (hS.n 51 rfl) (hS.k 51 8 rfl) (by decide) rfl (Nat.le_of_ble_eq_true rfl) (by decide) (by decide) (by decide) (s_mX8_work hS h) (fun r10 I8 J9 h => ?_)
        refine V_if_ne 42 dX8_cell_35 rfl (fun hc => ?_) (fun hc => ?_)
        · replace h := h.1 hc
          refine V_iload_n dX8_cell_42 rfl rfl ?_
          refine V_aload_n dX8_cell_43 rfl rfl ?_
          refine V_getr dX8_cell_44 fl_RX8_51 (hS.n 51 rfl) (hS.k 51 8 rfl) rfl (hS.r 51 18 64 rfl) ?_
          refine V_iload_n dX8_cell_47 rfl rfl ?_
          obtain ⟨hb, h⟩ := h
          refine V_iald dX8_cell_48 (hS.n 64 rfl) (hS.k 64 9 rfl) (by rw [(hS.z 64 24 rfl)]; exact hb) ?_
          refine V_icmp_ge 56 dX8_cell_49 rfl (fun hc => ?_) (fun hc => ?_)
          · replace h := h.1 hc
            refine V_iconst (v := 1) dX8_cell_56 (by decide) ?_
            refine V_callVi (st := []) [.int 1] dX8_cell_57 ok_mX8_goesWell rfl ml_RX8_112 in_mX8_goesWell se_mX8_goesWell (hS.n 51 rfl) (hS.k 51 8 rfl) (by decide) rfl (Nat.le_of_ble_eq_true rfl) (by decide) (by decide) (by decide) (s_mX8_goesWell hS h) (fun r12 I11 J9 h => ?_)
            obtain ⟨rfl, h⟩ := h
            refine V_if_eq 73 dX8_cell_60 rfl (fun hc => ?_) (fun hc => ?_)
            · replace h := h.1 hc
              refine V_iconst (v := 0) dX8_cell_73 (by decide) ?_
              exact V_iret dX8_cell_74 rfl (by decide) (by decide) ⟨_, rfl, rfl, h⟩
            · replace h := h.2 hc
              refine V_aload_n dX8_cell_63 rfl rfl ?_
              refine V_iload_n dX8_cell_64 rfl rfl ?_
              refine V_iload_n dX8_cell_65 rfl rfl ?_
              refine V_iload_n dX8_cell_66 rfl rfl ?_
              refine V_callVi (st := []) [.int a1, .int a2, .int a3] dX8_cell_67 ok_mX8_cellOf rfl ml_RX8_144 in_mX8_cellOf se_mX8_cellOf (hS.n 51 rfl) (hS.k 51 8 rfl) (by decide) rfl (Nat.le_of_ble_eq_true rfl) (by decide) (by decide) (by decide) (s_mX8_cellOf hS h) (fun r13 I9 J9 h => ?_)
              obtain ⟨rfl, rfl, h⟩ := h
              refine V_goto 74 dX8_cell_70 rfl ?_
              exact V_iret dX8_cell_74 rfl (by decide) (by decide) ⟨_, rfl, rfl, h⟩
          · replace h := h.2 hc
            refine V_iconst (v := 0) dX8_cell_52 (by decide) ?_
            refine V_goto 57 dX8_cell_53 rfl ?_
            refine V_callVi (st := []) [.int 0] dX8_cell_57 ok_mX8_goesWell rfl ml_RX8_112 in_mX8_goesWell se_mX8_goesWell (hS.n 51 rfl) (hS.k 51 8 rfl) (by decide) rfl (Nat.le_of_ble_eq_true rfl) (by decide) (by decide) (by decide) (s_mX8_goesWell hS h) (fun r15 I14 J9 h => ?_)
            obtain ⟨rfl, h⟩ := h
            refine V_if_eq 73 dX8_cell_60 rfl (fun hc => ?_) (fun hc => ?_)
            · replace h := h.1 hc
              refine V_iconst (v := 0) dX8_cell_73 (by decide) ?_
              exact V_iret dX8_cell_74 rfl (by decide) (by decide) ⟨_, rfl, rfl, h⟩
            · replace h := h.2 hc
              refine V_aload_n dX8_cell_63 rfl rfl ?_
              refine V_iload_n dX8_cell_64 rfl rfl ?_
              refine V_iload_n dX8_cell_65 rfl rfl ?_
              refine V_iload_n dX8_cell_66 rfl rfl ?_
              refine V_callVi (st := []) [.int a1, .int a2, .int a3] dX8_cell_67 ok_mX8_cellOf rfl ml_RX8_144 in_mX8_cellOf se_mX8_cellOf (hS.n 51 rfl) (hS.k 51 8 rfl) (by decide) rfl (Nat.le_of_ble_eq_true rfl) (by decide) (by decide) (by decide) (s_mX8_cellOf hS h) (fun r16 I9 J9 h => ?_)
              obtain ⟨rfl, rfl, h⟩ := h
              refine V_goto 74 dX8_cell_70 rfl ?_
              exact V_iret dX8_cell_74 rfl (by decide) (by decide) ⟨_, rfl, rfl, h⟩
        · replace h := h.2 hc
          refine V_iconst (v := 2) dX8_cell_38 (by decide) ?_
          refine V_goto 57 dX8_cell_39 rfl ?_
          refine V_callVi (st := []) [.int 2] dX8_cell_57 ok_mX8_goesWell rfl ml_RX8_112 in_mX8_goesWell se_mX8_goesWell (hS.n 51 rfl) (hS.k 51 8 rfl) (by decide) rfl (Nat.le_of_ble_eq_true rfl) (by decide) (by decide) (by decide) (s_mX8_goesWell hS h) (fun r18 I17 J9 h => ?_)
          obtain ⟨rfl, h⟩ := h
          refine V_if_eq 73 dX8_cell_60 rfl (fun hc => ?_) (fun hc => ?_)
          · replace h := h.1 hc
            refine V_iconst (v := 0) dX8_cell_73 (by decide) ?_
            exact V_iret dX8_cell_74 rfl (by decide) (by decide) ⟨_, rfl, rfl, h⟩
          · replace h := h.2 hc
            refine V_aload_n dX8_cell_63 rfl rfl ?_
            refine V_iload_n dX8_cell_64 rfl rfl ?_
            refine V_iload_n dX8_cell_65 rfl rfl ?_
            refine V_iload_n dX8_cell_66 rfl rfl ?_
            refine V_callVi (st := []) [.int a1, .int a2, .int a3] dX8_cell_67 ok_mX8_cellOf rfl ml_RX8_144 in_mX8_cellOf se_mX8_cellOf (hS.n 51 rfl) (hS.k 51 8 rfl) (by decide) rfl (Nat.le_of_ble_eq_true rfl) (by decide) (by decide) (by decide) (s_mX8_cellOf hS h) (fun r19 I9 J9 h => ?_)
            obtain ⟨rfl, rfl, h⟩ := h
            refine V_goto 74 dX8_cell_70 rfl ?_
            exact V_iret dX8_cell_74 rfl (by decide) (by decide) ⟨_, rfl, rfl, h⟩
      · first | exact absurd hc (by decide) | exact absurd (by decide) hc
def wX8_steps (a1 : Int32) (I : QI) (J : QJ) (post : Int32 → QI → QJ → Prop) : Prop := (wX8_isNode a1 I (fun r1 => ((¬ r1 = 0 → (wX8_work a1 I J (fun r4 I2 J3 => ((r4 = 0 → (wX8_goesWell 2 I2 (fun r6 I5 => ((r6 = 0 → post 0 I5 J3) ∧ (¬ r6 = 0 → (vp_in a1 24 ∧ post (((J3 65 (a1).toNatClampNeg)).toInt32) I5 J3)))))) ∧ (¬ r4 = 0 → (wX8_goesWell 0 I2 (fun r8 I7 => ((r8 = 0 → post 0 I7 J3) ∧ (¬ r8 = 0 → (vp_in a1 24 ∧ post (((J3 65 (a1).toNatClampNeg)).toInt32) I7 J3)))))))))) ∧ (r1 = 0 → (wX8_goesWell 1 I (fun r10 I9 => ((r10 = 0 → post 0 I9 J) ∧ (¬ r10 = 0 → (vp_in a1 24 ∧ post (((J 65 (a1).toNatClampNeg)).toInt32) I9 J)))))))))
set_option maxRecDepth 100000 in
set_option maxHeartbeats 4000000 in
theorem s_mX8_steps {X : QX} {S : QS} {a1 : Int32} {I : QI} {J : QJ} {post : Int32 → QI → QJ → Prop} (hS : Sh S) (h : wX8_steps a1 I J post) : CX X mX8_steps 6 0 0 [.ref 51, .int a1] S I J (q_Pi S (fun r I2 J2 => post r I2 J2)) := by
  refine CX.of (lo := [(0, .ref 51), (1, .int a1)]) ok_mX8_steps rfl (Nat.le_of_ble_eq_true rfl) rfl ?_
  replace h : (wX8_isNode a1 I (fun r1 => ((¬ r1 = 0 → (wX8_work a1 I J (fun r4 I2 J3 => ((r4 = 0 → (wX8_goesWell 2 I2 (fun r6 I5 => ((r6 = 0 → post 0 I5 J3) ∧ (¬ r6 = 0 → (vp_in a1 24 ∧ post (((J3 65 (a1).toNatClampNeg)).toInt32) I5 J3)))))) ∧ (¬ r4 = 0 → (wX8_goesWell 0 I2 (fun r8 I7 => ((r8 = 0 → post 0 I7 J3) ∧ (¬ r8 = 0 → (vp_in a1 24 ∧ post (((J3 65 (a1).toNatClampNeg)).toInt32) I7 J3)))))))))) ∧ (r1 = 0 → (wX8_goesWell 1 I (fun r10 I9 => ((r10 = 0 → post 0 I9 J) ∧ (¬ r10 = 0 → (vp_in a1 24 ∧ post (((J 65 (a1).toNatClampNeg)).toInt32) I9 J))))))))) := h
  refine V_aload_n dX8_steps_0 rfl rfl ?_
  refine V_iload_n dX8_steps_1 rfl rfl ?_
  refine V_callVi (st := []) [.int a1] dX8_steps_2 ok_mX8_isNode rfl ml_RX8_121 in_mX8_isNode se_mX8_isNode (hS.n 51 rfl) (hS.k 51 8 rfl) (by decide) rfl (Nat.le_of_ble_eq_true rfl) (by decide) (by decide) (by decide) (s_mX8_isNode hS h) (fun r1 I9 J9 h => ?_)
  obtain ⟨rfl, rfl, h⟩ := h
  refine V_istore_n (lo2 := [(2, .int r1), (0, .ref 51), (1, .int a1)]) dX8_steps_5 rfl (by decide) rfl ?_
  refine V_aload_n dX8_steps_6 rfl rfl ?_
  refine V_iload_n dX8_steps_7 rfl rfl ?_
  refine V_if_ne 15 dX8_steps_8 rfl (fun hc => ?_) (fun hc => ?_)
  · replace h := h.1 hc
    refine V_aload_n dX8_steps_15 rfl rfl ?_
    refine V_iload_n dX8_steps_16 rfl rfl ?_
    refine V_callVi (st := [.ref 51]) [.int a1] dX8_steps_17 ok_mX8_work rfl ml_RX8_202 in_mX8_work se_mX8_work (hS.n 51 rfl) (hS.k 51 8 rfl) (by decide) rfl (Nat.le_of_ble_eq_true rfl) (by decide) (by decide) (by decide) (s_mX8_work hS h) (fun r4 I2 J3 h => ?_)
    refine V_if_eq 27 dX8_steps_20 rfl (fun hc => ?_) (fun hc => ?_)
    · replace h := h.1 hc
      refine V_iconst (v := 2) dX8_steps_27 (by decide) ?_
      refine V_callVi (st := []) [.int 2] dX8_steps_28 ok_mX8_goesWell rfl ml_RX8_112 in_mX8_goesWell se_mX8_goesWell (hS.n 51 rfl) (hS.k 51 8 rfl) (by decide) rfl (Nat.le_of_ble_eq_true rfl) (by decide) (by decide) (by decide) (s_mX8_goesWell hS h) (fun r6 I5 J9 h => ?_)
      obtain ⟨rfl, h⟩ := h
      refine V_if_eq 44 dX8_steps_31 rfl (fun hc => ?_) (fun hc => ?_)
      · replace h := h.1 hc
        refine V_iconst (v := 0) dX8_steps_44 (by decide) ?_
        exact V_iret dX8_steps_45 rfl (by decide) (by decide) ⟨_, rfl, rfl, h⟩
      · replace h := h.2 hc
        refine V_aload_n dX8_steps_34 rfl rfl ?_
        refine V_getr dX8_steps_35 fl_RX8_54 (hS.n 51 rfl) (hS.k 51 8 rfl) rfl (hS.r 51 19 65 rfl) ?_
        refine V_iload_n dX8_steps_38 rfl rfl ?_
        obtain ⟨hb, h⟩ := h
        refine V_lald dX8_steps_39 (hS.n 65 rfl) (hS.k 65 10 rfl) (by rw [(hS.z 65 24 rfl)]; exact hb) ?_
        refine V_l2i dX8_steps_40 ?_
        refine V_goto 45 dX8_steps_41 rfl ?_
        exact V_iret dX8_steps_45 rfl (by decide) (by decide) ⟨_, rfl, rfl, h⟩
    · replace h := h.2 hc
      refine V_iconst (v := 0) dX8_steps_23 (by decide) ?_
      refine V_goto 28 dX8_steps_24 rfl ?_
      refine V_callVi (st := []) [.int 0] dX8_steps_28 ok_mX8_goesWell rfl ml_RX8_112 in_mX8_goesWell se_mX8_goesWell (hS.n 51 rfl) (hS.k 51 8 rfl) (by decide) rfl (Nat.le_of_ble_eq_true rfl) (by decide) (by decide) (by decide) (s_mX8_goesWell hS h) (fun r8 I7 J9 h => ?_)
      obtain ⟨rfl, h⟩ := h
      refine V_if_eq 44 dX8_steps_31 rfl (fun hc => ?_) (fun hc => ?_)
      · replace h := h.1 hc
        refine V_iconst (v := 0) dX8_steps_44 (by decide) ?_
        exact V_iret dX8_steps_45 rfl (by decide) (by decide) ⟨_, rfl, rfl, h⟩
      · replace h := h.2 hc
        refine V_aload_n dX8_steps_34 rfl rfl ?_
        refine V_getr dX8_steps_35 fl_RX8_54 (hS.n 51 rfl) (hS.k 51 8 rfl) rfl (hS.r 51 19 65 rfl) ?_
        refine V_iload_n dX8_steps_38 rfl rfl ?_
        obtain ⟨hb, h⟩ := h
        refine V_lald dX8_steps_39 (hS.n 65 rfl) (hS.k 65 10 rfl) (by rw [(hS.z 65 24 rfl)]; exact hb) ?_
        refine V_l2i dX8_steps_40 ?_
        refine V_goto 45 dX8_steps_41 rfl ?_
        exact V_iret dX8_steps_45 rfl (by decide) (by decide) ⟨_, rfl, rfl, h⟩
  · replace h := h.2 hc
    refine V_iconst (v := 1) dX8_steps_11 (by decide) ?_
    refine V_goto 28 dX8_steps_12 rfl ?_
    refine V_callVi (st := []) [.int 1] dX8_steps_28 ok_mX8_goesWell rfl ml_RX8_112 in_mX8_goesWell se_mX8_goesWell (hS.n 51 rfl) (hS.k 51 8 rfl) (by decide) rfl (Nat.le_of_ble_eq_true rfl) (by decide) (by decide) (by decide) (s_mX8_goesWell hS h) (fun r10 I9 J9 h => ?_)
    obtain ⟨rfl, h⟩ := h
    refine V_if_eq 44 dX8_steps_31 rfl (fun hc => ?_) (fun hc => ?_)
    · replace h := h.1 hc
      refine V_iconst (v := 0) dX8_steps_44 (by decide) ?_
      exact V_iret dX8_steps_45 rfl (by decide) (by decide) ⟨_, rfl, rfl, h⟩
    · replace h := h.2 hc
      refine V_aload_n dX8_steps_34 rfl rfl ?_
      refine V_getr dX8_steps_35 fl_RX8_54 (hS.n 51 rfl) (hS.k 51 8 rfl) rfl (hS.r 51 19 65 rfl) ?_
      refine V_iload_n dX8_steps_38 rfl rfl ?_
      obtain ⟨hb, h⟩ := h
      refine V_lald dX8_steps_39 (hS.n 65 rfl) (hS.k 65 10 rfl) (by rw [(hS.z 65 24 rfl)]; exact hb) ?_
      refine V_l2i dX8_steps_40 ?_
      refine V_goto 45 dX8_steps_41 rfl ?_
      exact V_iret dX8_steps_45 rfl (by decide) (by decide) ⟨_, rfl, rfl, h⟩
def wX8_isKept_6 (a1 : Int32) (a2 : Int32) (a3 : Int32) (I : QI) (post : Int32 → Prop) : Nat → Int32 → Int32 → Prop
  | 0, _, _ => False
  | n + 1, x4, x5 => (vp_in a2 24 ∧ (((I 61 (a2).toNatClampNeg) ≤ x5 → ((x4 = 0 ∨ x4 = 1) ∧ post x4)) ∧ (¬ (I 61 (a2).toNatClampNeg) ≤ x5 → ((x4 = 0 → (∀ v1 : Int32, v1 = (x5 + 1) → (wX8_isKept_6 a1 a2 a3 I post n 0 v1))) ∧ (¬ x4 = 0 → (vp_in ((6 * a1) + x5) 1200 ∧ (wX8_cellOf a2 a3 x5 I (fun r2 => ((¬ (I 69 (((6 * a1) + x5)).toNatClampNeg) = r2 → (∀ v3 : Int32, v3 = (x5 + 1) → (wX8_isKept_6 a1 a2 a3 I post n 0 v3))) ∧ ((I 69 (((6 * a1) + x5)).toNatClampNeg) = r2 → (∀ v4 : Int32, v4 = (x5 + 1) → (wX8_isKept_6 a1 a2 a3 I post n 1 v4))))))))))))
set_option maxRecDepth 100000 in
set_option maxHeartbeats 4000000 in
theorem swX8_isKept_6 {X : QX} {S : QS} {a1 : Int32} {a2 : Int32} {a3 : Int32} {I : QI} {J : QJ} {post : Int32 → Prop} (hS : Sh S) : ∀ (f : Nat) (x4 : Int32) (x5 : Int32), wX8_isKept_6 a1 a2 a3 I post f x4 x5 → V X mX8_isKept 1 0 0 (q_Pi S (fun r I2 J2 => I = I2 ∧ J = J2 ∧ post r)) 6 [(0, .ref 51), (1, .int a1), (2, .int a2), (3, .int a3), (4, .int x4), (5, .int x5)] [] S I J 0 0 := by
  intro f
  induction f with
  | zero => intro x4 x5 h; exact h.elim
  | succ n ih =>
    intro x4 x5 h
    replace h : (vp_in a2 24 ∧ (((I 61 (a2).toNatClampNeg) ≤ x5 → ((x4 = 0 ∨ x4 = 1) ∧ post x4)) ∧ (¬ (I 61 (a2).toNatClampNeg) ≤ x5 → ((x4 = 0 → (∀ v1 : Int32, v1 = (x5 + 1) → (wX8_isKept_6 a1 a2 a3 I post n 0 v1))) ∧ (¬ x4 = 0 → (vp_in ((6 * a1) + x5) 1200 ∧ (wX8_cellOf a2 a3 x5 I (fun r2 => ((¬ (I 69 (((6 * a1) + x5)).toNatClampNeg) = r2 → (∀ v3 : Int32, v3 = (x5 + 1) → (wX8_isKept_6 a1 a2 a3 I post n 0 v3))) ∧ ((I 69 (((6 * a1) + x5)).toNatClampNeg) = r2 → (∀ v4 : Int32, v4 = (x5 + 1) → (wX8_isKept_6 a1 a2 a3 I post n 1 v4)))))))))))) := h
    refine V_iload dX8_isKept_6 rfl ?_
    refine V_aload_n dX8_isKept_8 rfl rfl ?_
    refine V_getr dX8_isKept_9 fl_RX8_37 (hS.n 51 rfl) (hS.k 51 8 rfl) rfl (hS.r 51 12 61 rfl) ?_
    refine V_iload_n dX8_isKept_12 rfl rfl ?_
    obtain ⟨hb, h⟩ := h
    refine V_iald dX8_isKept_13 (hS.n 61 rfl) (hS.k 61 9 rfl) (by rw [(hS.z 61 24 rfl)]; exact hb) ?_
    refine V_icmp_ge 58 dX8_isKept_14 rfl (fun hc => ?_) (fun hc => ?_)
    · replace h := h.1 hc
      refine V_iload dX8_isKept_58 rfl ?_
      obtain ⟨hz, h⟩ := h
      exact V_zret dX8_isKept_60 rfl (q_nz hz) (by decide) (by decide) ⟨_, rfl, rfl, rfl, rfl, h⟩
    · replace h := h.2 hc
      refine V_iload dX8_isKept_17 rfl ?_
      refine V_if_eq 49 dX8_isKept_19 rfl (fun hc => ?_) (fun hc => ?_)
      · replace h := h.1 hc
        refine V_iconst (v := 0) dX8_isKept_49 (by decide) ?_
        refine V_istore (lo2 := [(4, .int 0), (0, .ref 51), (1, .int a1), (2, .int a2), (3, .int a3), (5, .int x5)]) dX8_isKept_50 (by decide) rfl ?_
        obtain ⟨v1, e_v1⟩ : ∃ z : Int32, z = (x5 + 1) := ⟨_, rfl⟩
        replace h := h v1 e_v1
        refine V_iinc (lo2 := [(5, .int v1), (4, .int 0), (0, .ref 51), (1, .int a1), (2, .int a2), (3, .int a3)]) 5 dX8_isKept_52 rfl (v := v1) (by rw [e_v1]; first | done | rfl) (by decide) rfl ?_
        refine V_goto 6 dX8_isKept_55 rfl ?_
        refine V_sub (lo2 := [(0, .ref 51), (1, .int a1), (2, .int a2), (3, .int a3), (4, .int 0), (5, .int v1)]) [2, 3, 4, 5, 1, 0] rfl ?_
        exact ih _ _ h
      · replace h := h.2 hc
        refine V_aload_n dX8_isKept_22 rfl rfl ?_
        refine V_getr dX8_isKept_23 fl_RX8_68 (hS.n 51 rfl) (hS.k 51 8 rfl) rfl (hS.r 51 23 69 rfl) ?_
        refine V_bipush (v := 6) dX8_isKept_26 (by decide) ?_
        refine V_iload_n dX8_isKept_28 rfl rfl ?_
        refine V_imul dX8_isKept_29 ?_
        refine V_iload dX8_isKept_30 rfl ?_
        refine V_iadd dX8_isKept_32 ?_
        obtain ⟨hb, h⟩ := h
        refine V_iald dX8_isKept_33 (hS.n 69 rfl) (hS.k 69 9 rfl) (by rw [(hS.z 69 1200 rfl)]; exact hb) ?_
        refine V_aload_n dX8_isKept_34 rfl rfl ?_
        refine V_iload_n dX8_isKept_35 rfl rfl ?_
        refine V_iload_n dX8_isKept_36 rfl rfl ?_
        refine V_iload dX8_isKept_37 rfl ?_
        refine V_callVi (st := [.int (I 69 (((6 * a1) + x5)).toNatClampNeg)]) [.int a2, .int a3, .int x5] dX8_isKept_39 ok_mX8_cellOf rfl ml_RX8_144 in_mX8_cellOf se_mX8_cellOf (hS.n 51 rfl) (hS.k 51 8 rfl) (by decide) rfl (Nat.le_of_ble_eq_true rfl) (by decide) (by decide) (by decide) (s_mX8_cellOf hS h) (fun r2 I9 J9 h => ?_)
        obtain ⟨rfl, rfl, h⟩ := h
        refine V_icmp_ne 49 dX8_isKept_42 rfl (fun hc => ?_) (fun hc => ?_)
        · replace h := h.1 hc
          refine V_iconst (v := 0) dX8_isKept_49 (by decide) ?_
          refine V_istore (lo2 := [(4, .int 0), (0, .ref 51), (1, .int a1), (2, .int a2), (3, .int a3), (5, .int x5)]) dX8_isKept_50 (by decide) rfl ?_
          obtain ⟨v3, e_v3⟩ : ∃ z : Int32, z = (x5 + 1) := ⟨_, rfl⟩
          replace h := h v3 e_v3
          refine V_iinc (lo2 := [(5, .int v3), (4, .int 0), (0, .ref 51), (1, .int a1), (2, .int a2), (3, .int a3)]) 5 dX8_isKept_52 rfl (v := v3) (by rw [e_v3]; first | done | rfl) (by decide) rfl ?_
          refine V_goto 6 dX8_isKept_55 rfl ?_
          refine V_sub (lo2 := [(0, .ref 51), (1, .int a1), (2, .int a2), (3, .int a3), (4, .int 0), (5, .int v3)]) [2, 3, 4, 5, 1, 0] rfl ?_
          exact ih _ _ h
        · replace h := h.2 hc
          refine V_iconst (v := 1) dX8_isKept_45 (by decide) ?_
          refine V_goto 50 dX8_isKept_46 rfl ?_
          refine V_istore (lo2 := [(4, .int 1), (0, .ref 51), (1, .int a1), (2, .int a2), (3, .int a3), (5, .int x5)]) dX8_isKept_50 (by decide) rfl ?_
          obtain ⟨v4, e_v4⟩ : ∃ z : Int32, z = (x5 + 1) := ⟨_, rfl⟩
          replace h := h v4 e_v4
          refine V_iinc (lo2 := [(5, .int v4), (4, .int 1), (0, .ref 51), (1, .int a1), (2, .int a2), (3, .int a3)]) 5 dX8_isKept_52 rfl (v := v4) (by rw [e_v4]; first | done | rfl) (by decide) rfl ?_
          refine V_goto 6 dX8_isKept_55 rfl ?_
          refine V_sub (lo2 := [(0, .ref 51), (1, .int a1), (2, .int a2), (3, .int a3), (4, .int 1), (5, .int v4)]) [2, 3, 4, 5, 1, 0] rfl ?_
          exact ih _ _ h
def wX8_isKept (a1 : Int32) (a2 : Int32) (a3 : Int32) (I : QI) (post : Int32 → Prop) : Prop := (∃ f : Nat, wX8_isKept_6 a1 a2 a3 I post f 1 0)
set_option maxRecDepth 100000 in
set_option maxHeartbeats 4000000 in
theorem s_mX8_isKept {X : QX} {S : QS} {a1 : Int32} {a2 : Int32} {a3 : Int32} {I : QI} {J : QJ} {post : Int32 → Prop} (hS : Sh S) (h : wX8_isKept a1 a2 a3 I post) : CX X mX8_isKept 1 0 0 [.ref 51, .int a1, .int a2, .int a3] S I J (q_Pi S (fun r I2 J2 => I = I2 ∧ J = J2 ∧ post r)) := by
  refine CX.of (lo := [(0, .ref 51), (1, .int a1), (2, .int a2), (3, .int a3)]) ok_mX8_isKept rfl (Nat.le_of_ble_eq_true rfl) rfl ?_
  replace h : (∃ f : Nat, wX8_isKept_6 a1 a2 a3 I post f 1 0) := h
  refine V_iconst (v := 1) dX8_isKept_0 (by decide) ?_
  refine V_istore (lo2 := [(4, .int 1), (0, .ref 51), (1, .int a1), (2, .int a2), (3, .int a3)]) dX8_isKept_1 (by decide) rfl ?_
  refine V_iconst (v := 0) dX8_isKept_3 (by decide) ?_
  refine V_istore (lo2 := [(5, .int 0), (4, .int 1), (0, .ref 51), (1, .int a1), (2, .int a2), (3, .int a3)]) dX8_isKept_4 (by decide) rfl ?_
  refine V_sub (lo2 := [(0, .ref 51), (1, .int a1), (2, .int a2), (3, .int a3), (4, .int 1), (5, .int 0)]) [2, 3, 4, 5, 1, 0] rfl ?_
  obtain ⟨f9, h⟩ := h
  refine swX8_isKept_6 hS f9 _ _ h
