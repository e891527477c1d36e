/-! pure: the law's calls: group, bag -/
section LC
variable {K : Int32 → QS → QI → QJ → Nat → Nat → Prop} {post : Int32 → Prop} {i k n : Nat} {Z : Zs} {S : QS} {I : QI} {J : QJ}
theorem b_group {V1 V2 V3 V4 : Prop} {a1 a2 a3 a4 : Int32} (hV : V1 ∧ V2 ∧ V3 ∧ V4) (hK : Kw9 K i) (h : LR i Z S I k n) (hi : i < 512) : wL_group a1 a2 a3 a4 I J (fun r1 I2 J3 => V1 ∧ (V2 ∧ (V3 ∧ (V4 ∧ wX8_group a1 a2 a3 a4 I2 (fun r5 I4 => fin9 K post (nI (6 * i)) S I4 J3 (k + 1) (n + 6) r1 r5))))) := by
  have hL := h.nc hi
  obtain ⟨T, P, bu, Kk, Vv⟩ := Z
  obtain ⟨hwT, hwP, hd, hbu, hwK, hwV⟩ := h.2.1
  obtain ⟨c1, c2, -⟩ := h.2.2.1
  obtain ⟨m1, m2, -⟩ := h.2.2.2.1
  obtain ⟨hV1, hV2, hV3, hV4⟩ := hV
  replace hwT : Tw T := hwT
  replace hwP : Pw T P := hwP
  replace c2 : Pc I P := c2
  replace m2 : Pm I P := m2
  have h24 := hwP.1
  have M1 : (∀ Q : Int32 → Prop, Q 0 → wX8_isNodeColumn a1 a2 I Q) → wX8_group a1 a2 a3 a4 I (fun r5 I4 => fin9 K post (nI (6 * i)) S I4 J (k + 1) (n + 6) 1 r5) := by
    intro hn
    unfold wX8_group
    exact hn _ ⟨fun _ => m_in_any (fun r2 => ⟨fun _ => gwF hK hL (by decide), fun _ => ⟨fun _ => gwF hK hL (by decide), fun _ => ⟨fun _ => gwF hK hL (by decide), fun _ => gwF hK hL (by decide)⟩⟩⟩), fun z => absurd rfl z⟩
  unfold wL_group wX7_group
  rcases ixc a1 P.length (by omega) with ⟨m, hm, rfl⟩ | hx
  · have w6 := (hwP.2 m hm).1.2.2.2.2.2.2
    have w1 := (hwP.2 m hm).1.2.2.2.2.2.1
    have ec : (nI m).toNatClampNeg = m := nI_clamp (by omega)
    have vp1 : vp_in (nI m) 24 := by simp (disch := omega) only [fa_lit, nI_ltI, nI_leI, nI_eq, nI_add, pk_mul, nI_clamp, vp_in_nI, l_uk, l_n1, l_n1e, l_n1e2, l_n1l, l_n1l2, l_n1l3, not_true_eq_false, not_false_eq_true, true_implies, false_implies, true_and, and_true, and_self, forall_eq, bI_t, bI_f, Bool.false_eq_true, or_true, true_or, or_false, false_or, s1_ltx, if_true, if_false, Nat.add_zero, Nat.zero_add,  d_leF, d_leT, d_ltF, d_ltT, d_eqF, d_eqT]
    rcases ixc a2 (nd P m).2.2.2.2.2.2 (by omega) with ⟨c, hc, rfl⟩ | hx
    · refine p_col c2 hwP hm hc ⟨fun _ => ?_, fun z => absurd z (by decide)⟩
      have hq : ∀ (x d : Nat), x < 5 → d < (nd P m).2.2.2.2.2.2 → nW T P P.length (3, m, 0, x, c, nI d, 2) := fun x d g1 g2 => ⟨⟨by show (3 : Nat) < 5; omega, by show m < 24; omega, by show (0 : Nat) ≤ 24; omega, by show x < 6; omega, by show c < 6; omega, by show 1 ≤ 2; omega, by show 2 ≤ 6; omega⟩, rfl, fun z => absurd z (by show ¬ (3 : Nat) = 0; omega), fun _ => hm, fun z => absurd z (by show ¬ (3 : Nat) = 1; omega), fun z => absurd z (by show ¬ (3 : Nat) = 2; omega), fun _ => ⟨rfl, g1, hc, d, rfl, g2⟩, fun z => absurd z (by show ¬ (3 : Nat) = 4; omega)⟩
      by_cases h0 : a3 = 0
      · subst h0
        have hin : ∀ (I : QI) (Q : Int32 → Prop), Q 1 → wX8_in 0 0 4 I Q := fun I Q hQ => m_in4 (j := 0) (m := 4) (by omega) (by omega) hQ
        refine ⟨fun _ => ⟨fun z => absurd z (by decide), fun _ => ⟨fun _ => ⟨fun z => absurd rfl z, fun _ => ⟨fun h4 => ?_, fun h4 => Or.inr (Or.inl ⟨rfl, hV1, hV2, hV3, hV4, ?_⟩)⟩⟩, fun z => absurd (by decide) z⟩⟩, fun z => absurd rfl z⟩
        · subst h4
          refine b_made (q := (3, m, 0, 0, c, nI 0, 2)) (c := 3) hK h hi (hq 0 0 (by omega) (by omega)) (by decide) (W := fun I Q => wX8_group (nI m) (nI c) 0 0 I Q) (Y := fun r1 I2 J3 => V1 ∧ (V2 ∧ (V3 ∧ (V4 ∧ wX8_group (nI m) (nI c) 0 0 I2 (fun r5 I4 => fin9 K post (nI (6 * i)) S I4 J3 (k + 1) (n + 6) r1 r5))))) (fun I2 Q h1 h2 h3 => ?_) (fun r1 I2 J3 h1 => ⟨hV1, hV2, hV3, hV4, h1⟩) (fun I2 h1 => Or.inr (Or.inr ⟨rfl, h1⟩))
          unfold wX8_group
          exact m_isNodeColumn h2 hwP hm hc ⟨fun z => absurd z (by decide), fun _ => ⟨fun _ => hin _ _ ⟨fun z => absurd z (by decide), fun _ => ⟨fun z => absurd rfl z, fun _ => ⟨fun z => absurd rfl z, fun _ => gwT h3⟩⟩⟩, fun z => absurd rfl z⟩⟩
        · unfold wX8_group
          exact m_isNodeColumn m2 hwP hm hc ⟨fun z => absurd z (by decide), fun _ => ⟨fun _ => hin _ _ ⟨fun z => absurd z (by decide), fun _ => ⟨fun z => absurd rfl z, fun _ => ⟨fun _ => gwF hK hL (by decide), fun z => absurd z h4⟩⟩⟩, fun z => absurd rfl z⟩⟩
      · refine ⟨fun z => absurd z h0, fun _ => ?_⟩
        rcases ixc a4 (nd P m).2.2.2.2.2.2 (by omega) with ⟨d, hdl, rfl⟩ | hx
        · have hinc : ∀ (I2 : QI) (Q : Int32 → Prop), Pm I2 P → Q 1 → wX8_in (nI d) 0 (I2 61 (nI m).toNatClampNeg - 1) I2 Q := fun I2 Q hP hQ => by
            rw [ec, (hP.2 m hm).2.2.2.2.2.2]
            exact m_in hdl (by omega) hQ
          refine p_col c2 hwP hm hdl ⟨fun _ => ?_, fun z => absurd z (by decide)⟩
          rcases ixc a3 5 (by omega) with ⟨x, hx5, rfl⟩ | hx
          · have hin : ∀ (I : QI) (Q : Int32 → Prop), Q 1 → wX8_in (nI x) 0 4 I Q := fun I Q hQ => m_in4 (m := 4) (by omega) (by omega) hQ
            refine ⟨fun z => absurd z (nI_nn (by omega)), fun _ => ⟨fun _ => ⟨fun _ => ?_, fun z => absurd z h0⟩, fun z => absurd ?_ z⟩⟩
            · refine b_made (q := (3, m, 0, x, c, nI d, 2)) (c := 3) hK h hi (hq x d hx5 hdl) (by decide) (W := fun I Q => wX8_group (nI m) (nI c) (nI x) (nI d) I Q) (Y := fun r1 I2 J3 => V1 ∧ (V2 ∧ (V3 ∧ (V4 ∧ wX8_group (nI m) (nI c) (nI x) (nI d) I2 (fun r5 I4 => fin9 K post (nI (6 * i)) S I4 J3 (k + 1) (n + 6) r1 r5))))) (fun I2 Q h1 h2 h3 => ?_) (fun r1 I2 J3 h1 => ⟨hV1, hV2, hV3, hV4, h1⟩) (fun I2 h1 => Or.inr (Or.inr ⟨rfl, h1⟩))
              unfold wX8_group
              exact m_isNodeColumn h2 hwP hm hc ⟨fun z => absurd z (by decide), fun _ => ⟨fun z => absurd z h0, fun _ => ⟨vp1, hinc I2 _ h2 ⟨fun z => absurd z (by decide), fun _ => hin _ _ ⟨fun z => absurd z (by decide), fun _ => ⟨fun _ => gwT h3, fun z => absurd z h0⟩⟩⟩⟩⟩⟩
            · show nI x ≤ nI 4
              rw [nI_leI (by omega) (by omega)]
              omega
          · have M3 : wX8_group (nI m) (nI c) a3 (nI d) I (fun r5 I4 => fin9 K post (nI (6 * i)) S I4 J (k + 1) (n + 6) 2 r5) := by
              unfold wX8_group
              exact m_isNodeColumn m2 hwP hm hc ⟨fun z => absurd z (by decide), fun _ => ⟨fun z => absurd z h0, fun _ => ⟨vp1, hinc I _ m2 ⟨fun z => absurd z (by decide), fun _ => m_in3 (m := 4) (by omega) hx ⟨fun _ => gwF hK hL (by decide), fun z => absurd rfl z⟩⟩⟩⟩⟩
            exact ⟨fun _ => Or.inr (Or.inl ⟨rfl, hV1, hV2, hV3, hV4, M3⟩), fun z => ⟨fun z2 => absurd hx (not_or.2 ⟨z, fun z3 => absurd (Int32.lt_of_lt_of_le (show (4 : Int32) < nI 5 by decide) z3) (Int32.not_lt.2 z2)⟩), fun _ => Or.inr (Or.inl ⟨rfl, hV1, hV2, hV3, hV4, M3⟩)⟩⟩
        · refine p_col_f c2 hwP hm hx ⟨fun z => absurd rfl z, fun _ => Or.inl ⟨rfl, hV1, hV2, hV3, hV4, ?_⟩⟩
          unfold wX8_group
          refine m_isNodeColumn m2 hwP hm hc ⟨fun z => absurd z (by decide), fun _ => ⟨fun z => absurd z h0, fun _ => ⟨vp1, ?_⟩⟩⟩
          rw [ec, (m2.2 m hm).2.2.2.2.2.2]
          exact m_in_f (by omega) hx ⟨fun _ => m_in_any (fun r2 => ⟨fun _ => gwF hK hL (by decide), fun _ => ⟨fun _ => gwF hK hL (by decide), fun _ => ⟨fun _ => gwF hK hL (by decide), fun _ => gwF hK hL (by decide)⟩⟩⟩), fun z => absurd rfl z⟩
    · exact p_col_f c2 hwP hm hx ⟨fun z => absurd rfl z, fun _ => Or.inl ⟨rfl, hV1, hV2, hV3, hV4, M1 (fun Q hQ => m_isNodeColumn_f2 m2 hwP hm hx hQ)⟩⟩
  · exact p_col_f1 c2 hx ⟨fun z => absurd rfl z, fun _ => Or.inl ⟨rfl, hV1, hV2, hV3, hV4, M1 (fun Q hQ => m_isNodeColumn_f1 m2 hwP hx hQ)⟩⟩
theorem b_bag {V1 V2 V3 : Prop} {a1 a2 a3 : Int32} (hV : V1 ∧ V2 ∧ V3) (hK : Kw9 K i) (h : LR i Z S I k n) (hi : i < 512) : wL_bag a1 a2 a3 I J (fun r1 I2 J3 => V1 ∧ (V2 ∧ (V3 ∧ wX8_bag a1 a2 a3 I2 (fun r5 I4 => fin9 K post (nI (6 * i)) S I4 J3 (k + 1) (n + 6) r1 r5)))) := by
  have hL := h.nc hi
  obtain ⟨T, P, bu, Kk, Vv⟩ := Z
  obtain ⟨hwT, hwP, hd, hbu, hwK, hwV⟩ := h.2.1
  obtain ⟨c1, c2, -⟩ := h.2.2.1
  obtain ⟨m1, m2, -⟩ := h.2.2.2.1
  obtain ⟨hV1, hV2, hV3⟩ := hV
  replace hwT : Tw T := hwT
  replace hwP : Pw T P := hwP
  replace c2 : Pc I P := c2
  replace m2 : Pm I P := m2
  have h24 := hwP.1
  unfold wL_bag wX7_bag
  rcases ixc a1 P.length (by omega) with ⟨p, hp, rfl⟩ | hx
  · have w6 := (hwP.2 p hp).1.2.2.2.2.2.2
    have w1 := (hwP.2 p hp).1.2.2.2.2.2.1
    have ec1 : (nI p).toNatClampNeg = p := nI_clamp (by omega)
    have vp1 : vp_in (nI p) 24 := by simp (disch := omega) only [fa_lit, nI_ltI, nI_leI, nI_eq, nI_add, pk_mul, nI_clamp, vp_in_nI, l_uk, l_n1, l_n1e, l_n1e2, l_n1l, l_n1l2, l_n1l3, not_true_eq_false, not_false_eq_true, true_implies, false_implies, true_and, and_true, and_self, forall_eq, bI_t, bI_f, Bool.false_eq_true, or_true, true_or, or_false, false_or, s1_ltx, if_true, if_false, Nat.add_zero, Nat.zero_add,  d_leF, d_leT, d_ltF, d_ltT, d_eqF, d_eqT]
    refine p_has c2 hwP hp ⟨fun z => absurd z (by decide), fun _ => ?_⟩
    rcases ixc a2 P.length (by omega) with ⟨o, ho, rfl⟩ | hx
    · have v6 := (hwP.2 o ho).1.2.2.2.2.2.2
      have ec2 : (nI o).toNatClampNeg = o := nI_clamp (by omega)
      have vp2 : vp_in (nI o) 24 := by simp (disch := omega) only [fa_lit, nI_ltI, nI_leI, nI_eq, nI_add, pk_mul, nI_clamp, vp_in_nI, l_uk, l_n1, l_n1e, l_n1e2, l_n1l, l_n1l2, l_n1l3, not_true_eq_false, not_false_eq_true, true_implies, false_implies, true_and, and_true, and_self, forall_eq, bI_t, bI_f, Bool.false_eq_true, or_true, true_or, or_false, false_or, s1_ltx, if_true, if_false, Nat.add_zero, Nat.zero_add,  d_leF, d_leT, d_ltF, d_ltT, d_eqF, d_eqT]
      refine p_has c2 hwP ho ⟨fun _ => ?_, fun z => absurd z (by decide)⟩
      rcases ixc a3 4 (by omega) with ⟨x, hx4, rfl⟩ | hx
      · have hin : ∀ (I : QI) (Q : Int32 → Prop), Q 1 → wX8_in (nI x) 0 3 I Q := fun I Q hQ => m_in4 (m := 3) (by omega) (by omega) hQ
        have lm : ∀ I2 : QI, Pm I2 P → (I2 61 (nI p).toNatClampNeg = I2 61 (nI o).toNatClampNeg) = ((nd P p).2.2.2.2.2.2 = (nd P o).2.2.2.2.2.2) := by
          intro I2 hm
          rw [ec1, ec2, (hm.2 p hp).2.2.2.2.2.2, (hm.2 o ho).2.2.2.2.2.2, nI_eq (by omega) (by omega)]
        refine ⟨fun z => absurd z (nI_nn (by omega)), fun _ => ⟨fun _ => p_widthOf c2 hwP hp (p_widthOf c2 hwP ho ⟨fun z => ?_, fun z => Or.inr (Or.inr ⟨rfl, hV1, hV2, hV3, ?_⟩)⟩), fun z => absurd ?_ z⟩⟩
        · rw [nI_eq (by omega) (by omega)] at z
          have hq : nW T P P.length (4, p, o + 1, x, 0, 0, (nd P p).2.2.2.2.2.2) := ⟨⟨by show (4 : Nat) < 5; omega, by show p < 24; omega, by show o + 1 ≤ 24; omega, by show x < 6; omega, by show (0 : Nat) < 6; omega, w1, w6⟩, rfl, fun z => absurd z (by show ¬ (4 : Nat) = 0; omega), fun _ => hp, fun z => absurd z (by show ¬ (4 : Nat) = 1; omega), fun z => absurd z (by show ¬ (4 : Nat) = 2; omega), fun z => absurd z (by show ¬ (4 : Nat) = 3; omega), fun _ => ⟨by show ¬ o + 1 = 0; omega, ho, hx4, rfl, rfl, z.symm⟩⟩
          refine b_made (q := (4, p, o + 1, x, 0, 0, (nd P p).2.2.2.2.2.2)) (c := 3) hK h hi hq (by decide) (W := fun I Q => wX8_bag (nI p) (nI o) (nI x) I Q) (Y := fun r1 I2 J3 => V1 ∧ (V2 ∧ (V3 ∧ wX8_bag (nI p) (nI o) (nI x) I2 (fun r5 I4 => fin9 K post (nI (6 * i)) S I4 J3 (k + 1) (n + 6) r1 r5)))) (fun I2 Q h1 h2 h3 => ?_) (fun r1 I2 J3 h1 => ⟨hV1, hV2, hV3, h1⟩) (fun I2 h1 => Or.inr (Or.inr ⟨rfl, h1⟩))
          unfold wX8_bag
          exact m_isNode h2 hwP hp ⟨fun z => absurd z (by decide), fun _ => m_isNode h2 hwP ho ⟨fun z => absurd z (by decide), fun _ => hin _ _ ⟨fun _ => ⟨vp1, vp2, fun y => absurd (by rw [lm I2 h2]; exact z) y, fun _ => gwT h3⟩, fun z => absurd z (by decide)⟩⟩⟩
        · rw [nI_eq (by omega) (by omega)] at z
          unfold wX8_bag
          exact m_isNode m2 hwP hp ⟨fun z => absurd z (by decide), fun _ => m_isNode m2 hwP ho ⟨fun z => absurd z (by decide), fun _ => hin _ _ ⟨fun _ => ⟨vp1, vp2, fun _ => gwF hK hL (by decide), fun y => absurd (by rw [lm I m2] at y; exact y) z⟩, fun z => absurd z (by decide)⟩⟩⟩
        · show nI x ≤ nI 3
          rw [nI_leI (by omega) (by omega)]
          omega
      · have M3 : wX8_bag (nI p) (nI o) a3 I (fun r5 I4 => fin9 K post (nI (6 * i)) S I4 J (k + 1) (n + 6) 2 r5) := by
          unfold wX8_bag
          exact m_isNode m2 hwP hp ⟨fun z => absurd z (by decide), fun _ => m_isNode m2 hwP ho ⟨fun z => absurd z (by decide), fun _ => m_in3 (m := 3) (by omega) hx ⟨fun z => absurd rfl z, fun _ => gwF hK hL (by decide)⟩⟩⟩
        exact ⟨fun _ => Or.inr (Or.inl ⟨rfl, hV1, hV2, hV3, M3⟩), fun z => ⟨fun z2 => absurd hx (not_or.2 ⟨z, fun z3 => absurd (Int32.lt_of_lt_of_le (show (3 : Int32) < nI 4 by decide) z3) (Int32.not_lt.2 z2)⟩), fun _ => Or.inr (Or.inl ⟨rfl, hV1, hV2, hV3, M3⟩)⟩⟩
    · refine p_has_f c2 hx ⟨fun z => absurd rfl z, fun _ => Or.inl ⟨rfl, hV1, hV2, hV3, ?_⟩⟩
      unfold wX8_bag
      exact m_isNode m2 hwP hp ⟨fun z => absurd z (by decide), fun _ => m_isNode_f m2 hwP hx ⟨fun _ => m_in_any (fun r => gwF hK hL (by decide)), fun z => absurd rfl z⟩⟩
  · refine p_has_f c2 hx ⟨fun _ => Or.inl ⟨rfl, hV1, hV2, hV3, ?_⟩, fun z => absurd rfl z⟩
    unfold wX8_bag
    exact m_isNode_f m2 hwP hx ⟨fun _ => m_in_any (fun r => gwF hK hL (by decide)), fun z => absurd rfl z⟩
theorem L_6 {X : QX} (hl : X.2.1.2.1 ≤ 3072) (hi6 : 6 * i + 6 ≤ X.2.1.2.1) (hK : Kw9 K i) (h : LR i Z S I k n) : wL_c6 X K post (nI (6 * i)) S I J k n := by
  have hv : ∀ j : Nat, j < 6 → vp_in (nI (6 * i) + nI j) X.2.1.2.1 := fun j hj => by simp (disch := omega) only [fa_lit, nI_ltI, nI_leI, nI_eq, nI_add, pk_mul, nI_clamp, vp_in_nI, l_uk, l_n1, l_n1e, l_n1e2, l_n1l, l_n1l2, l_n1l3, not_true_eq_false, not_false_eq_true, true_implies, false_implies, true_and, and_true, and_self, forall_eq, bI_t, bI_f, Bool.false_eq_true, or_true, true_or, or_false, false_or, s1_ltx, if_true, if_false, Nat.add_zero, Nat.zero_add,  d_leF, d_leT, d_ltF, d_ltT, d_eqF, d_eqT]
  have hkn := h.kn
  exact ⟨hv 1 (by omega), hv 2 (by omega), hv 3 (by omega), hv 4 (by omega), hkn.1, hkn.2, b_group ⟨hv 1 (by omega), hv 2 (by omega), hv 3 (by omega), hv 4 (by omega)⟩ hK h (by omega)⟩
theorem L_7 {X : QX} (hl : X.2.1.2.1 ≤ 3072) (hi6 : 6 * i + 6 ≤ X.2.1.2.1) (hK : Kw9 K i) (h : LR i Z S I k n) : wL_c7 X K post (nI (6 * i)) S I J k n := by
  have hv : ∀ j : Nat, j < 6 → vp_in (nI (6 * i) + nI j) X.2.1.2.1 := fun j hj => by simp (disch := omega) only [fa_lit, nI_ltI, nI_leI, nI_eq, nI_add, pk_mul, nI_clamp, vp_in_nI, l_uk, l_n1, l_n1e, l_n1e2, l_n1l, l_n1l2, l_n1l3, not_true_eq_false, not_false_eq_true, true_implies, false_implies, true_and, and_true, and_self, forall_eq, bI_t, bI_f, Bool.false_eq_true, or_true, true_or, or_false, false_or, s1_ltx, if_true, if_false, Nat.add_zero, Nat.zero_add,  d_leF, d_leT, d_ltF, d_ltT, d_eqF, d_eqT]
  have hkn := h.kn
  exact ⟨hv 1 (by omega), hv 2 (by omega), hv 3 (by omega), hkn.1, hkn.2, b_bag ⟨hv 1 (by omega), hv 2 (by omega), hv 3 (by omega)⟩ hK h (by omega)⟩
end LC
