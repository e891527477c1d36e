/-! pure: the pairs of the reference's rewriting -/
/-- a pair put behind -/
def padd (a1 a2 x : Int32) (S : QS) (I : QI) (c1 s1 c s : Nat) (post : Int32 → QS → QI → Prop) : Prop := (∀ p10 : Nat, S.2.2.2.2 51 28 = some p10 → ((¬ (I 51 27) = (Int32.ofNat (S.2.2.2.1 p10)) → (∀ p11 : Nat, S.2.2.2.2 51 28 = some p11 → (vp_in (I 51 27) (S.2.2.2.1 p11) ∧ (∀ I12 : QI, I12 = q_u2 I p11 ((I 51 27)).toNatClampNeg a1 → (∀ p13 : Nat, S.2.2.2.2 51 29 = some p13 → (vp_in (I12 51 27) (S.2.2.2.1 p13) ∧ (∀ I14 : QI, I14 = q_u2 I12 p13 ((I12 51 27)).toNatClampNeg a2 → (∀ p15 : Nat, S.2.2.2.2 51 30 = some p15 → (vp_in (I14 51 27) (S.2.2.2.1 p15) ∧ (∀ I16 : QI, I16 = q_u2 I14 p15 ((I14 51 27)).toNatClampNeg x → (∀ I17 : QI, I17 = q_u2 I16 51 27 ((I16 51 27) + 1) → post x S I17))))))))))) ∧ ((I 51 27) = (Int32.ofNat (S.2.2.2.1 p10)) → (∀ p18 : Nat, S.2.2.2.2 51 28 = some p18 → (∃ c2 s2 : Nat, (0 + c1) + c2 ≤ c ∧ (0 + s1) + s2 ≤ s ∧ wX8_longer p18 S I c2 s2 (fun p19 S20 I21 => (∀ S23 : QS, S23 = q_sR S20 (q_u2 S20.2.2.2.2 51 28 (some p19)) → (∀ p24 : Nat, S23.2.2.2.2 51 29 = some p24 → (∃ c3 s3 : Nat, (0 + c1 + c2) + c3 ≤ c ∧ (0 + s1 + s2) + s3 ≤ s ∧ wX8_longer p24 S23 I21 c3 s3 (fun p25 S26 I27 => (∀ S29 : QS, S29 = q_sR S26 (q_u2 S26.2.2.2.2 51 29 (some p25)) → (∀ p30 : Nat, S29.2.2.2.2 51 30 = some p30 → (∃ c4 s4 : Nat, (0 + c1 + c2 + c3) + c4 ≤ c ∧ (0 + s1 + s2 + s3) + s4 ≤ s ∧ wX8_longer p30 S29 I27 c4 s4 (fun p31 S32 I33 => (∀ S35 : QS, S35 = q_sR S32 (q_u2 S32.2.2.2.2 51 30 (some p31)) → (∀ p36 : Nat, S35.2.2.2.2 51 28 = some p36 → (vp_in (I33 51 27) (S35.2.2.2.1 p36) ∧ (∀ I37 : QI, I37 = q_u2 I33 p36 ((I33 51 27)).toNatClampNeg a1 → (∀ p38 : Nat, S35.2.2.2.2 51 29 = some p38 → (vp_in (I37 51 27) (S35.2.2.2.1 p38) ∧ (∀ I39 : QI, I39 = q_u2 I37 p38 ((I37 51 27)).toNatClampNeg a2 → (∀ p40 : Nat, S35.2.2.2.2 51 30 = some p40 → (vp_in (I39 51 27) (S35.2.2.2.1 p40) ∧ (∀ I41 : QI, I41 = q_u2 I39 p40 ((I39 51 27)).toNatClampNeg x → (∀ I42 : QI, I42 = q_u2 I41 51 27 ((I41 51 27) + 1) → post x S35 I42)))))))))))))))))))))))))
def pad (X : List Pr × Nat) (p : Pr) : List Pr × Nat := (X.1 ++ [p], if X.1.length = 64 * X.2 then 2 * X.2 else X.2)
theorem gw {S S2 : QS} {a p j : Nat} (h : S2 = q_sR (q_nS S a 9 (2 * S.2.2.2.1 p)) (q_u2 (q_nS S a 9 (2 * S.2.2.2.1 p)).2.2.2.2 51 j (some S.2.1))) (h51 : 80 ≤ S.2.1) : S2.2.1 = S.2.1 + 1 ∧ S2.2.2.2.2 51 j = some S.2.1 ∧ (∀ k, k ≠ j → S2.2.2.2.2 51 k = S.2.2.2.2 51 k) ∧ (∀ k, k < S.2.1 → S2.2.2.2.1 k = S.2.2.2.1 k) ∧ S2.2.2.2.1 S.2.1 = 2 * S.2.2.2.1 p := by
  subst h
  refine ⟨rfl, q_u2_s _ _ _ _, fun k hk => ?_, fun k hk => by show (q_nS S a 9 (2 * S.2.2.2.1 p)).2.2.2.1 k = _; exact nS_z hk, ?_⟩
  · show q_u2 _ 51 j _ 51 k = _
    rw [q_u2_j _ _ _ hk]
    exact nS_r (by omega)
  · show (q_nS S a 9 (2 * S.2.2.2.1 p)).2.2.2.1 S.2.1 = _
    rw [nS_n]
theorem pr_l {PS : List Pr} {p : Pr} {k : Nat} (h : k < PS.length) : pr (PS ++ [p]) k = pr PS k := by
  unfold pr
  rw [List.getD_eq_getElem?_getD, List.getElem?_append_left h, ← List.getD_eq_getElem?_getD]
theorem pr_e {PS : List Pr} {p : Pr} : pr (PS ++ [p]) PS.length = p := by
  unfold pr
  rw [List.getD_eq_getElem?_getD, List.getElem?_append_right (Nat.le_refl _), Nat.sub_self]
  rfl
theorem Pt_one {I I2 : QI} {q1 q2 q3 w1 w2 w3 n r : Nat} {x : Int32} {PS : List Pr} (h : Pt I q1 q2 q3 PS) (h27 : I2 51 27 = nI (PS.length + 1)) (o1 : ∀ k, k < PS.length → I2 w1 k = I q1 k) (o2 : ∀ k, k < PS.length → I2 w2 k = I q2 k) (o3 : ∀ k, k < PS.length → I2 w3 k = I q3 k) (n1 : I2 w1 PS.length = nI n) (n2 : I2 w2 PS.length = sB r) (n3 : I2 w3 PS.length = x) : Pt I2 w1 w2 w3 (PS ++ [(n, r, x)]) := by
  refine ⟨by rw [List.length_append]; exact h27, fun k hk => ?_⟩
  rw [List.length_append] at hk
  have hk2 : k < PS.length + 1 := hk
  by_cases e : k = PS.length
  · subst e
    rw [pr_e]
    exact ⟨n1, n2, n3⟩
  · rw [pr_l (by omega), o1 k (by omega), o2 k (by omega), o3 k (by omega)]
    exact h.2 k (by omega)
theorem Lt_fr {I I2 : QI} {p1 p2 : Nat} {C : List (List Nat)} (h : Lt I p1 p2 C) (h24 : I2 51 24 = I 51 24) (e1 : I2 p1 = I p1) (e2 : I2 p2 = I p2) : Lt I2 p1 p2 C := ⟨by rw [h24]; exact h.1, fun k hk => by rw [e1, e2]; exact h.2 k hk⟩
theorem FL1.of3 {I I2 : QI} {p1 p2 p3 : Nat} (g1 : 70 ≤ p1) (g2 : p1 < 75 ∨ 80 ≤ p1) (g3 : 70 ≤ p2) (g4 : p2 < 75 ∨ 80 ≤ p2) (g5 : 70 ≤ p3) (g6 : p3 < 75 ∨ 80 ≤ p3) (h : ∀ b, b ≠ p1 → b ≠ p2 → b ≠ p3 → b ≠ 51 → I2 b = I b) (h2 : ∀ j, j ≠ 27 → I2 51 j = I 51 j) : FL1 I I2 := ⟨fun b hb => h b (by omega) (by omega) (by omega) (by omega), fun j _ hj => h2 j hj⟩
set_option maxHeartbeats 2000000 in
theorem m_padd {S : QS} {I : QI} {C : List (List Nat)} {u : Nat} {PS : List Pr} {v n r c1 s1 c s : Nat} {x : Int32} {post : Int32 → QS → QI → Prop} (hA : AT S I (C, u, PS, v)) (hv : (pad (PS, v) (n, r, x)).2 ≤ 4096) (hc : c1 + 3 * ((pad (PS, v) (n, r, x)).2 - v) ≤ c) (hs : s1 + 384 * ((pad (PS, v) (n, r, x)).2 - v) ≤ s) (h : ∀ S2 I2, AT S2 I2 (C, u, (pad (PS, v) (n, r, x)).1, (pad (PS, v) (n, r, x)).2) → FL1 I I2 → post x S2 I2) : padd (nI n) (sB r) x S I c1 s1 c s post := by
  obtain ⟨p1, p2, q1, q2, q3, hg, hL, hP, hO, lC, lP, u1, v1, u9, v9, S80, SN⟩ := hA.un
  have hg0 := hg
  obtain ⟨⟨r1, r2, r3, r4, r5⟩, ⟨z1, z2, z3, z4, z5⟩, ⟨⟨a1, b1⟩, ⟨a2, b2⟩, ⟨a3, b3⟩, ⟨a4, b4⟩, ⟨a5, b5⟩⟩, ⟨g1, g2, g3, g4, g5⟩, ⟨n12, n13, n14, n15, n23, n24, n25, n34, n35, n45⟩⟩ := hg
  simp only at r1 r2 r3 r4 r5 z1 z2 z3 z4 z5 a1 a2 a3 a4 a5 b1 b2 b3 b4 b5 g1 g2 g3 g4 g5 n12 n13 n14 n15 n23 n24 n25 n34 n35 n45
  replace hv : (if PS.length = 64 * v then 2 * v else v) ≤ 4096 := hv
  replace hc : c1 + 3 * ((if PS.length = 64 * v then 2 * v else v) - v) ≤ c := hc
  replace hs : s1 + 384 * ((if PS.length = 64 * v then 2 * v else v) - v) ≤ s := hs
  replace h : ∀ S2 I2, AT S2 I2 (C, u, PS ++ [(n, r, x)], (if PS.length = 64 * v then 2 * v else v)) → FL1 I I2 → post x S2 I2 := h
  have l2 : (PS ++ [(n, r, x)]).length = PS.length + 1 := by rw [List.length_append]; rfl
  have c27 := hP.1
  have eN : Int32.ofNat (64 * v) = nI (64 * v) := rfl
  unfold padd
  refine b_S r3 ?_
  rw [z3, eN, c27]
  by_cases e9 : PS.length = 64 * v
  · rw [if_pos e9] at hv hc hs h
    refine ⟨fun z => absurd (by rw [e9]) z, fun _ => ?_⟩
    refine b_S r3 ⟨1, 128 * v, by omega, by omega, ⟨by omega, by omega⟩, Nat.le_refl _, by omega, fun a => ?_⟩
    intro SA hSA
    obtain ⟨tA, jA, rA, zA, nA⟩ := gw hSA S80
    refine b_S (by rw [rA 29 (by omega)]; exact r4) ⟨1, 128 * v, by omega, by omega, ⟨by omega, by rw [zA q2 b4]; omega⟩, Nat.le_refl _, by rw [zA q2 b4]; omega, fun a' => ?_⟩
    intro SB hSB
    obtain ⟨tB, jB, rB, zB, nB⟩ := gw hSB (by omega)
    refine b_S (by rw [rB 30 (by omega), rA 30 (by omega)]; exact r5) ⟨1, 128 * v, by omega, by omega, ⟨by omega, by rw [zB q3 (by omega), zA q3 b5]; omega⟩, Nat.le_refl _, by rw [zB q3 (by omega), zA q3 b5]; omega, fun a'' => ?_⟩
    intro SC hSC
    obtain ⟨tC, jC, rC, zC, nC⟩ := gw hSC (by omega)
    rw [tA] at tB jB zB nB
    have tB2 : SB.2.1 = S.2.1 + 2 := tB
    rw [tB2] at tC jC zC nC
    rw [zA q2 b4, z4] at nB
    rw [z3] at nA
    rw [zB q3 (by omega), zA q3 b5, z5] at nC
    have k28 : SC.2.2.2.2 51 28 = some S.2.1 := by rw [rC 28 (by omega), rB 28 (by omega)]; exact jA
    have k29 : SC.2.2.2.2 51 29 = some (S.2.1 + 1) := by rw [rC 29 (by omega)]; exact jB
    have y28 : SC.2.2.2.1 S.2.1 = 128 * v := by rw [zC _ (by omega), zB _ (by omega), nA]; omega
    have y29 : SC.2.2.2.1 (S.2.1 + 1) = 128 * v := by rw [zC _ (by omega), nB]; omega
    have y30 : SC.2.2.2.1 (S.2.1 + 2) = 128 * v := by rw [nC]; omega
    have e2 := zA q2 b4
    have e3 := (zB q3 (by omega)).trans (zA q3 b5)
    have hg2 : gP SC (p1, p2, S.2.1, S.2.1 + 1, S.2.1 + 2) u (2 * v) := by
      refine ⟨⟨?_, ?_, k28, k29, jC⟩, ⟨?_, ?_, by show SC.2.2.2.1 S.2.1 = _; omega, by show SC.2.2.2.1 (S.2.1 + 1) = _; omega, by show SC.2.2.2.1 (S.2.1 + 2) = _; omega⟩, ⟨⟨a1, by show p1 < SC.2.1; omega⟩, ⟨a2, by show p2 < SC.2.1; omega⟩, ⟨by show 70 ≤ S.2.1; omega, by show S.2.1 < SC.2.1; omega⟩, ⟨by show 70 ≤ S.2.1 + 1; omega, by show S.2.1 + 1 < SC.2.1; omega⟩, ⟨by show 70 ≤ S.2.1 + 2; omega, by show S.2.1 + 2 < SC.2.1; omega⟩⟩, ⟨g1, g2, Or.inr S80, Or.inr (by show 80 ≤ S.2.1 + 1; omega), Or.inr (by show 80 ≤ S.2.1 + 2; omega)⟩, ⟨n12, by show p1 ≠ S.2.1; omega, by show p1 ≠ S.2.1 + 1; omega, by show p1 ≠ S.2.1 + 2; omega, by show p2 ≠ S.2.1; omega, by show p2 ≠ S.2.1 + 1; omega, by show p2 ≠ S.2.1 + 2; omega, by show S.2.1 ≠ S.2.1 + 1; omega, by show S.2.1 ≠ S.2.1 + 2; omega, by show S.2.1 + 1 ≠ S.2.1 + 2; omega⟩⟩
      · show SC.2.2.2.2 51 25 = some p1
        rw [rC 25 (by omega), rB 25 (by omega), rA 25 (by omega)]; exact r1
      · show SC.2.2.2.2 51 26 = some p2
        rw [rC 26 (by omega), rB 26 (by omega), rA 26 (by omega)]; exact r2
      · show SC.2.2.2.1 p1 = 64 * u
        rw [zC p1 (by omega), zB p1 (by omega), zA p1 b1]; exact z1
      · show SC.2.2.2.1 p2 = 64 * u
        rw [zC p2 (by omega), zB p2 (by omega), zA p2 b2]; exact z2
    rw [tA, tB2]
    refine b_S k28 ?_
    simp (disch := omega) only [y28, y29, y30, c27, nr_rw, rw_s, q_u2_s, ne_u2, nr_u2, fa_lit, nI_ltI, nI_leI, nI_eq, nI_add, pk_mul, nI_clamp, vp_in_nI, l_uk, l_n1, l_n1e, l_n1e2, l_n1l, l_n1l2, l_n1l3, not_true_eq_false, not_false_eq_true, true_implies, false_implies, true_and, and_true, and_self, forall_eq, bI_t, bI_f, Bool.false_eq_true, or_true, true_or, or_false, false_or, s1_ltx, if_true, if_false, Nat.add_zero, Nat.zero_add,  d_leF, d_leT, d_ltF, d_ltT, d_eqF, d_eqT]
    refine b_S k29 ?_
    simp (disch := omega) only [y28, y29, y30, c27, nr_rw, rw_s, q_u2_s, ne_u2, nr_u2, fa_lit, nI_ltI, nI_leI, nI_eq, nI_add, pk_mul, nI_clamp, vp_in_nI, l_uk, l_n1, l_n1e, l_n1e2, l_n1l, l_n1l2, l_n1l3, not_true_eq_false, not_false_eq_true, true_implies, false_implies, true_and, and_true, and_self, forall_eq, bI_t, bI_f, Bool.false_eq_true, or_true, true_or, or_false, false_or, s1_ltx, if_true, if_false, Nat.add_zero, Nat.zero_add,  d_leF, d_leT, d_ltF, d_ltT, d_eqF, d_eqT]
    refine b_S jC ?_
    simp (disch := omega) only [y28, y29, y30, c27, nr_rw, rw_s, q_u2_s, ne_u2, nr_u2, fa_lit, nI_ltI, nI_leI, nI_eq, nI_add, pk_mul, nI_clamp, vp_in_nI, l_uk, l_n1, l_n1e, l_n1e2, l_n1l, l_n1l2, l_n1l3, not_true_eq_false, not_false_eq_true, true_implies, false_implies, true_and, and_true, and_self, forall_eq, bI_t, bI_f, Bool.false_eq_true, or_true, true_or, or_false, false_or, s1_ltx, if_true, if_false, Nat.add_zero, Nat.zero_add,  d_leF, d_leT, d_ltF, d_ltT, d_eqF, d_eqT]
    refine h SC _ (AT.mk hg2 ?_ ?_ hO lC (by omega) u1 (by omega) u9 hv (by omega) (by omega)) (FL1.of3 (p1 := S.2.1) (p2 := S.2.1 + 1) (p3 := S.2.1 + 2) (by omega) (by omega) (by omega) (by omega) (by omega) (by omega) (fun b x y z z2 => by rw [nr_u2 z2, nr_u2 z, nr_u2 y, nr_u2 x, nr_rw z, nr_rw y, nr_rw x]) (fun j x => by rw [q_u2_j _ _ _ x, nr_u2 (by omega), nr_u2 (by omega), nr_u2 (by omega), nr_rw (by omega), nr_rw (by omega), nr_rw (by omega)]))
    · refine Lt_fr hL ?_ ?_ ?_
      · rw [q_u2_j _ _ _ (by omega), nr_u2 (by omega), nr_u2 (by omega), nr_u2 (by omega), nr_rw (by omega), nr_rw (by omega), nr_rw (by omega)]
      · rw [nr_u2 (by omega), nr_u2 (by omega), nr_u2 (by omega), nr_u2 (by omega), nr_rw (by omega), nr_rw (by omega), nr_rw (by omega)]
      · rw [nr_u2 (by omega), nr_u2 (by omega), nr_u2 (by omega), nr_u2 (by omega), nr_rw (by omega), nr_rw (by omega), nr_rw (by omega)]
    · refine Pt_one hP (q_u2_s _ _ _ _) (fun k hk => ?_) (fun k hk => ?_) (fun k hk => ?_) ?_ ?_ ?_
      · rw [nr_u2 (by omega), nr_u2 (by omega), nr_u2 (by omega), q_u2_j _ _ _ (by omega), nr_rw (by omega), nr_rw (by omega), rw_s]
        exact if_pos (by omega)
      · rw [nr_u2 (by omega), nr_u2 (by omega), q_u2_j _ _ _ (by omega), nr_u2 (by omega), nr_rw (by omega), rw_s]
        refine (if_pos (by omega)).trans ?_
        rfl
      · rw [nr_u2 (by omega), q_u2_j _ _ _ (by omega), nr_u2 (by omega), nr_u2 (by omega), rw_s]
        refine (if_pos (by omega)).trans ?_
        rfl
      · rw [nr_u2 (by omega), nr_u2 (by omega), nr_u2 (by omega)]
        exact q_u2_s _ _ _ _
      · rw [nr_u2 (by omega), nr_u2 (by omega)]
        exact q_u2_s _ _ _ _
      · rw [nr_u2 (by omega)]
        exact q_u2_s _ _ _ _
  · rw [if_neg e9] at hv hc hs h
    refine ⟨fun _ => ?_, fun z => ?_⟩
    · refine b_S r3 ?_
      simp (disch := omega) only [z3, c27, q_u2_s, ne_u2, nr_u2, fa_lit, nI_ltI, nI_leI, nI_eq, nI_add, pk_mul, nI_clamp, vp_in_nI, l_uk, l_n1, l_n1e, l_n1e2, l_n1l, l_n1l2, l_n1l3, not_true_eq_false, not_false_eq_true, true_implies, false_implies, true_and, and_true, and_self, forall_eq, bI_t, bI_f, Bool.false_eq_true, or_true, true_or, or_false, false_or, s1_ltx, if_true, if_false, Nat.add_zero, Nat.zero_add,  d_leF, d_leT, d_ltF, d_ltT, d_eqF, d_eqT]
      refine b_S r4 ?_
      simp (disch := omega) only [z4, c27, q_u2_s, ne_u2, nr_u2, fa_lit, nI_ltI, nI_leI, nI_eq, nI_add, pk_mul, nI_clamp, vp_in_nI, l_uk, l_n1, l_n1e, l_n1e2, l_n1l, l_n1l2, l_n1l3, not_true_eq_false, not_false_eq_true, true_implies, false_implies, true_and, and_true, and_self, forall_eq, bI_t, bI_f, Bool.false_eq_true, or_true, true_or, or_false, false_or, s1_ltx, if_true, if_false, Nat.add_zero, Nat.zero_add,  d_leF, d_leT, d_ltF, d_ltT, d_eqF, d_eqT]
      refine b_S r5 ?_
      simp (disch := omega) only [z5, c27, q_u2_s, ne_u2, nr_u2, fa_lit, nI_ltI, nI_leI, nI_eq, nI_add, pk_mul, nI_clamp, vp_in_nI, l_uk, l_n1, l_n1e, l_n1e2, l_n1l, l_n1l2, l_n1l3, not_true_eq_false, not_false_eq_true, true_implies, false_implies, true_and, and_true, and_self, forall_eq, bI_t, bI_f, Bool.false_eq_true, or_true, true_or, or_false, false_or, s1_ltx, if_true, if_false, Nat.add_zero, Nat.zero_add,  d_leF, d_leT, d_ltF, d_ltT, d_eqF, d_eqT]
      refine h S _ (AT.mk hg0 ?_ ?_ hO lC (by omega) u1 v1 u9 v9 S80 SN) (FL1.of3 a3 g3 a4 g4 a5 g5 (fun b x y z z2 => by rw [nr_u2 z2, nr_u2 z, nr_u2 y, nr_u2 x]) (fun j x => by rw [q_u2_j _ _ _ x, nr_u2 (by omega), nr_u2 (by omega), nr_u2 (by omega)]))
      · refine Lt_fr hL ?_ ?_ ?_
        · rw [q_u2_j _ _ _ (by omega), nr_u2 (by omega), nr_u2 (by omega), nr_u2 (by omega)]
        · rw [nr_u2 (by omega), nr_u2 n15, nr_u2 n14, nr_u2 n13]
        · rw [nr_u2 (by omega), nr_u2 n25, nr_u2 n24, nr_u2 n23]
      · refine Pt_one hP (q_u2_s _ _ _ _) (fun k hk => ?_) (fun k hk => ?_) (fun k hk => ?_) ?_ ?_ ?_
        · rw [nr_u2 (by omega), nr_u2 n35, nr_u2 n34, q_u2_j _ _ _ (by omega)]
        · rw [nr_u2 (by omega), nr_u2 n45, q_u2_j _ _ _ (by omega), nr_u2 (fun z => n34 z.symm)]
        · rw [nr_u2 (by omega), q_u2_j _ _ _ (by omega), nr_u2 (fun z => n45 z.symm), nr_u2 (fun z => n35 z.symm)]
        · rw [nr_u2 (by omega), nr_u2 n35, nr_u2 n34]
          exact q_u2_s _ _ _ _
        · rw [nr_u2 (by omega), nr_u2 n45]
          exact q_u2_s _ _ _ _
        · rw [nr_u2 (by omega)]
          exact q_u2_s _ _ _ _
    · rw [nI_eq (by omega) (by omega)] at z
      exact absurd z e9
/-- the first pair of a node and a list -/
def pfd : List Pr → Nat → Nat → Option Int32
  | [], _, _ => none
  | p :: ps, n, r => if p.1 = n ∧ p.2.1 = r then some p.2.2 else pfd ps n r
theorem pfd_d {PS : List Pr} {n r i : Nat} (h : i < PS.length) : pfd (PS.drop i) n r = if (pr PS i).1 = n ∧ (pr PS i).2.1 = r then some (pr PS i).2.2 else pfd (PS.drop (i + 1)) n r := by
  have e : PS.drop i = pr PS i :: PS.drop (i + 1) := by
    rw [List.drop_eq_getElem_cons h]
    congr 1
    unfold pr
    rw [List.getD_eq_getElem?_getD, List.getElem?_eq_getElem h]
    rfl
  rw [e, pfd]
theorem pfd_m {PS : List Pr} {n r : Nat} {x : Int32} : pfd PS n r = some x → (n, r, x) ∈ PS := by
  induction PS with
  | nil => intro h; cases h
  | cons p ps ih =>
    intro h
    rw [pfd] at h
    by_cases e : p.1 = n ∧ p.2.1 = r
    · rw [if_pos e] at h
      obtain ⟨p1, p2, p3⟩ := p
      obtain ⟨e1, e2⟩ := e
      have e1 : p1 = n := e1
      have e2 : p2 = r := e2
      have e3 : p3 = x := Option.some.inj h
      subst e1 e2 e3
      exact List.mem_cons_self
    · rw [if_neg e] at h
      exact List.mem_cons_of_mem _ (ih h)
theorem m_pairs {S : QS} {I : QI} {C : List (List Nat)} {u : Nat} {PS : List Pr} {v n r : Nat} {K : QI → Prop} {post : Int32 → QS → QI → Prop} (hA : AT S I (C, u, PS, v)) (hn : n < 2 ^ 30) (h7 : ∀ k, k < PS.length → (pr PS k).1 < 2 ^ 30 ∧ (pr PS k).2.1 < 2 ^ 30) (hr : r < 2 ^ 30) (hK : pfd PS n r = none → K I) (h : ∀ x, pfd PS n r = some x → post x S I) : ∃ f, wX8_finished_68 S (nI n) (sB r) K post f 0 I := by
  obtain ⟨p1, p2, q1, q2, q3, hg, hL, hP, hO, lC, lP, u1, v1, u9, v9, S80, SN⟩ := hA.un
  obtain ⟨⟨r1, r2, r3, r4, r5⟩, ⟨z1, z2, z3, z4, z5⟩, -⟩ := hg
  simp only at r3 r4 r5 z3 z4 z5
  have c27 := hP.1
  refine lp (fun f k (_ : Unit) => wX8_finished_68 S (nI n) (sB r) K post f (nI k) I) (fun k _ => pfd PS n r = pfd (PS.drop k) n r) PS.length ?_ ?_ 0 () (Nat.zero_le _) rfl
  · intro f _ hI
    rw [List.drop_length] at hI
    show wX8_finished_68 _ _ _ _ _ _ _ _
    rw [wX8_finished_68]
    simp (disch := omega) only [c27, fa_lit, nI_ltI, nI_leI, nI_eq, nI_add, pk_mul, nI_clamp, vp_in_nI, l_uk, l_n1, l_n1e, l_n1e2, l_n1l, l_n1l2, l_n1l3, not_true_eq_false, not_false_eq_true, true_implies, false_implies, true_and, and_true, and_self, forall_eq, bI_t, bI_f, Bool.false_eq_true, or_true, true_or, or_false, false_or, s1_ltx, if_true, if_false, Nat.add_zero, Nat.zero_add,  d_leF, d_leT, d_ltF, d_ltT, d_eqF, d_eqT]
    exact hK hI
  · intro f k _ hk hI hkk
    obtain ⟨x1, x2, x3⟩ := hP.2 k hk
    obtain ⟨y1, y2⟩ := h7 k hk
    rw [pfd_d hk] at hI
    show wX8_finished_68 _ _ _ _ _ _ _ _
    rw [wX8_finished_68]
    simp (disch := omega) only [c27, fa_lit, nI_ltI, nI_leI, nI_eq, nI_add, pk_mul, nI_clamp, vp_in_nI, l_uk, l_n1, l_n1e, l_n1e2, l_n1l, l_n1l2, l_n1l3, not_true_eq_false, not_false_eq_true, true_implies, false_implies, true_and, and_true, and_self, forall_eq, bI_t, bI_f, Bool.false_eq_true, or_true, true_or, or_false, false_or, s1_ltx, if_true, if_false, Nat.add_zero, Nat.zero_add,  d_leF, d_leT, d_ltF, d_ltT, d_eqF, d_eqT]
    refine b_S r3 ?_
    simp (disch := omega) only [z3, x1, fa_lit, nI_ltI, nI_leI, nI_eq, nI_add, pk_mul, nI_clamp, vp_in_nI, l_uk, l_n1, l_n1e, l_n1e2, l_n1l, l_n1l2, l_n1l3, not_true_eq_false, not_false_eq_true, true_implies, false_implies, true_and, and_true, and_self, forall_eq, bI_t, bI_f, Bool.false_eq_true, or_true, true_or, or_false, false_or, s1_ltx, if_true, if_false, Nat.add_zero, Nat.zero_add,  d_leF, d_leT, d_ltF, d_ltT, d_eqF, d_eqT]
    refine ⟨fun e => hkk () ?_, fun e => ?_⟩
    · rw [if_neg (fun z => e z.1)] at hI
      exact hI
    refine b_S r4 ?_
    simp (disch := omega) only [z4, x2, sB_inj, fa_lit, nI_ltI, nI_leI, nI_eq, nI_add, pk_mul, nI_clamp, vp_in_nI, l_uk, l_n1, l_n1e, l_n1e2, l_n1l, l_n1l2, l_n1l3, not_true_eq_false, not_false_eq_true, true_implies, false_implies, true_and, and_true, and_self, forall_eq, bI_t, bI_f, Bool.false_eq_true, or_true, true_or, or_false, false_or, s1_ltx, if_true, if_false, Nat.add_zero, Nat.zero_add,  d_leF, d_leT, d_ltF, d_ltT, d_eqF, d_eqT]
    refine ⟨fun e2 => hkk () ?_, fun e2 => ?_⟩
    · rw [if_neg (fun z => e2 z.2)] at hI
      exact hI
    refine b_S r5 ?_
    simp (disch := omega) only [z5, x3, fa_lit, nI_ltI, nI_leI, nI_eq, nI_add, pk_mul, nI_clamp, vp_in_nI, l_uk, l_n1, l_n1e, l_n1e2, l_n1l, l_n1l2, l_n1l3, not_true_eq_false, not_false_eq_true, true_implies, false_implies, true_and, and_true, and_self, forall_eq, bI_t, bI_f, Bool.false_eq_true, or_true, true_or, or_false, false_or, s1_ltx, if_true, if_false, Nat.add_zero, Nat.zero_add,  d_leF, d_leT, d_ltF, d_ltT, d_eqF, d_eqT]
    rw [if_pos ⟨e, e2⟩] at hI
    exact h _ hI
