/-! pure: the law's calls: join -/
section LC
variable {K : Int32 → QS → QI → QJ → Nat → Nat → Prop} {post : Int32 → Prop} {i k n : Nat} {Z : Zs} {S : QS} {I : QI} {J : QJ}
theorem p_widthJ {T : QT} {P : List Nd} {m1 m2 x : Nat} {Q : Int32 → Prop} (hP : Pc I P) (hw : Pw T P) (h1 : m1 < P.length) (h2 : m2 < P.length) (hx : x < 2) (h : Q (nI ((nd P m1).2.2.2.2.2.2 + (nd P m2).2.2.2.2.2.2))) : wX2_widthMade 2 (nI m1) (nI m2) (nI x) I Q := by
  unfold wX2_widthMade
  have go : wX2_widthOf (nI m1) I (fun r2 => (wX2_widthOf (nI m2) I (fun r3 => Q (r2 + r3)))) := p_widthOf hP hw h1 (p_widthOf hP hw h2 (by rw [nI_add]; exact h))
  refine ⟨fun _ => ⟨fun _ => ⟨fun z => absurd rfl z, fun _ => ⟨fun _ => go, fun z0 => ⟨fun z1 => ?_, fun _ => go⟩⟩⟩, fun z => absurd z (by decide)⟩, fun z => absurd z (by decide)⟩
  rcases (show x = 0 ∨ x = 1 by omega) with rfl | rfl
  · exact absurd rfl z0
  · exact absurd rfl z1
theorem p_widthJ2 {T : QT} {P : List Nd} {m1 m2 x : Nat} {Q : Int32 → Prop} (hP : Pc I P) (hw : Pw T P) (h1 : m1 < P.length) (hx : 2 ≤ x) (hx5 : x < 5) (h : Q (nI (nd P m1).2.2.2.2.2.2)) : wX2_widthMade 2 (nI m1) (nI m2) (nI x) I Q := by
  unfold wX2_widthMade
  refine ⟨fun _ => ⟨fun _ => ⟨fun z => absurd rfl z, fun _ => ⟨fun z => ?_, fun z0 => ⟨fun z1 => p_widthOf hP hw h1 h, fun z => ?_⟩⟩⟩, fun z => absurd z (by decide)⟩, fun z => absurd z (by decide)⟩
  · replace z : nI x = nI 0 := z
    rw [nI_eq (by omega) (by omega)] at z
    omega
  · replace z : nI x = nI 1 := z
    rw [nI_eq (by omega) (by omega)] at z
    omega
theorem b_join {V1 V2 V3 V4 V5 : Prop} {a1 a2 a3 a4 a5 : Int32} (hV : V1 ∧ V2 ∧ V3 ∧ V4 ∧ V5) (hK : Kw9 K i) (h : LR i Z S I k n) (hi : i < 512) : wL_join a1 a2 a3 a4 a5 I J (fun r1 I2 J3 => V1 ∧ (V2 ∧ (V3 ∧ (V4 ∧ (V5 ∧ wX8_join a1 a2 a3 a4 a5 I2 (fun r5 I4 => fin9 K post (nI (6 * i)) S I4 J3 (k + 1) (n + 6) r1 r5)))))) := by
  have hL := h.nc hi
  obtain ⟨T, P, bu, Kk, Vv⟩ := Z
  obtain ⟨hwT, hwP, hd, hbu, hwK, hwV⟩ := h.2.1
  obtain ⟨c1, c2, -⟩ := h.2.2.1
  obtain ⟨m1, m2, -⟩ := h.2.2.2.1
  obtain ⟨hV1, hV2, hV3, hV4, hV5⟩ := hV
  replace hwT : Tw T := hwT
  replace hwP : Pw T P := hwP
  replace c2 : Pc I P := c2
  replace m2 : Pm I P := m2
  have h24 := hwP.1
  have M1 : (∀ Q : Int32 → Prop, Q 0 → wX8_isNodeColumn a1 a3 I Q) → wX8_join a1 a2 a3 a4 a5 I (fun r5 I4 => fin9 K post (nI (6 * i)) S I4 J (k + 1) (n + 6) 1 r5) := by
    intro hn
    unfold wX8_join
    exact hn _ ⟨fun _ => m_in_any (fun r2 => gwF hK hL (by decide)), fun z => absurd rfl z⟩
  unfold wL_join wX7_join
  rcases ixc a1 P.length (by omega) with ⟨p, hp, rfl⟩ | hx
  · have w6 := (hwP.2 p hp).1.2.2.2.2.2.2
    have w1 := (hwP.2 p hp).1.2.2.2.2.2.1
    have ec1 : (nI p).toNatClampNeg = p := nI_clamp (by omega)
    rcases ixc a3 (nd P p).2.2.2.2.2.2 (by omega) with ⟨c, hc, rfl⟩ | hx
    · refine p_col c2 hwP hp hc ⟨fun z => absurd z (by decide), fun _ => ?_⟩
      have M2 : (∀ Q : Int32 → Prop, Q 0 → wX8_isNodeColumn a2 a4 I Q) → wX8_join (nI p) a2 (nI c) a4 a5 I (fun r5 I4 => fin9 K post (nI (6 * i)) S I4 J (k + 1) (n + 6) 1 r5) := by
        intro hn
        unfold wX8_join
        exact m_isNodeColumn m2 hwP hp hc ⟨fun z => absurd z (by decide), fun _ => hn _ ⟨fun _ => m_in_any (fun r2 => gwF hK hL (by decide)), fun z => absurd rfl z⟩⟩
      rcases ixc a2 P.length (by omega) with ⟨o, ho, rfl⟩ | hx
      · have v6 := (hwP.2 o ho).1.2.2.2.2.2.2
        have v1 := (hwP.2 o ho).1.2.2.2.2.2.1
        have ec2 : (nI o).toNatClampNeg = o := nI_clamp (by omega)
        have vp1 : vp_in (nI p) 24 := by simp (disch := omega) only [fa_lit, nI_ltI, nI_leI, nI_eq, nI_add, pk_mul, nI_clamp, vp_in_nI, l_uk, l_n1, l_n1e, l_n1e2, l_n1l, l_n1l2, l_n1l3, not_true_eq_false, not_false_eq_true, true_implies, false_implies, true_and, and_true, and_self, forall_eq, bI_t, bI_f, Bool.false_eq_true, or_true, true_or, or_false, false_or, s1_ltx, if_true, if_false, Nat.add_zero, Nat.zero_add,  d_leF, d_leT, d_ltF, d_ltT, d_eqF, d_eqT]
        have vp2 : vp_in (nI o) 24 := by simp (disch := omega) only [fa_lit, nI_ltI, nI_leI, nI_eq, nI_add, pk_mul, nI_clamp, vp_in_nI, l_uk, l_n1, l_n1e, l_n1e2, l_n1l, l_n1l2, l_n1l3, not_true_eq_false, not_false_eq_true, true_implies, false_implies, true_and, and_true, and_self, forall_eq, bI_t, bI_f, Bool.false_eq_true, or_true, true_or, or_false, false_or, s1_ltx, if_true, if_false, Nat.add_zero, Nat.zero_add,  d_leF, d_leT, d_ltF, d_ltT, d_eqF, d_eqT]
        rcases ixc a4 (nd P o).2.2.2.2.2.2 (by omega) with ⟨d, hdl, rfl⟩ | hx
        · refine p_col c2 hwP ho hdl ⟨fun _ => ?_, fun z => absurd z (by decide)⟩
          rcases ixc a5 5 (by omega) with ⟨x, hx5, rfl⟩ | hx
          · have hin : ∀ (I : QI) (Q : Int32 → Prop), Q 1 → wX8_in (nI x) 0 4 I Q := fun I Q hQ => m_in4 (m := 4) (by omega) (by omega) hQ
            refine ⟨fun z => absurd z (nI_nn (by omega)), fun _ => ⟨fun _ => ?_, fun z => absurd ?_ z⟩⟩
            · have hq : ∀ W : Nat, 1 ≤ W → W ≤ 6 → W = wd T P (2, p, o + 1, x, c, nI d, W) → nW T P P.length (2, p, o + 1, x, c, nI d, W) := fun W g1 g6 g => ⟨⟨by show (2 : Nat) < 5; omega, by show p < 24; omega, by show o + 1 ≤ 24; omega, by show x < 6; omega, by show c < 6; omega, g1, g6⟩, g, fun z => absurd z (by show ¬ (2 : Nat) = 0; omega), fun _ => hp, fun z => absurd z (by show ¬ (2 : Nat) = 1; omega), fun _ => ⟨by show ¬ o + 1 = 0; omega, ho, hx5, hc, d, rfl, hdl⟩, fun z => absurd z (by show ¬ (2 : Nat) = 3; omega), fun z => absurd z (by show ¬ (2 : Nat) = 4; omega)⟩
              have l2 : ((2 : Int32) ≤ nI x) = (2 ≤ x) := by
                show (nI 2 ≤ nI x) = _
                rw [nI_leI (by omega) (by omega)]
              by_cases hx2 : x < 2
              · refine p_widthJ c2 hwP hp ho hx2 ?_
                have lw : (nI ((nd P p).2.2.2.2.2.2 + (nd P o).2.2.2.2.2.2) ≤ 6) = ((nd P p).2.2.2.2.2.2 + (nd P o).2.2.2.2.2.2 ≤ 6) := by
                  show (_ ≤ nI 6) = _
                  rw [nI_leI (by omega) (by omega)]
                have lm : ∀ I2 : QI, Pm I2 P → ((6 : Int32) < I2 61 (nI p).toNatClampNeg + I2 61 (nI o).toNatClampNeg) = (6 < (nd P p).2.2.2.2.2.2 + (nd P o).2.2.2.2.2.2) := by
                  intro I2 hm
                  rw [ec1, ec2, (hm.2 p hp).2.2.2.2.2.2, (hm.2 o ho).2.2.2.2.2.2, nI_add]
                  show (nI 6 < _) = _
                  rw [nI_ltI (by omega) (by omega)]
                refine ⟨fun z => ?_, fun z => Or.inr (Or.inr ⟨rfl, hV1, hV2, hV3, hV4, hV5, ?_⟩)⟩
                · rw [lw] at z
                  refine b_made (q := (2, p, o + 1, x, c, nI d, (nd P p).2.2.2.2.2.2 + (nd P o).2.2.2.2.2.2)) (c := 3) hK h hi (hq _ (by omega) z ?_) (by decide) (W := fun I Q => wX8_join (nI p) (nI o) (nI c) (nI d) (nI x) I Q) (Y := fun r1 I2 J3 => V1 ∧ (V2 ∧ (V3 ∧ (V4 ∧ (V5 ∧ wX8_join (nI p) (nI o) (nI c) (nI d) (nI x) I2 (fun r5 I4 => fin9 K post (nI (6 * i)) S I4 J3 (k + 1) (n + 6) r1 r5)))))) (fun I2 Q h1 h2 h3 => ?_) (fun r1 I2 J3 h1 => ⟨hV1, hV2, hV3, hV4, hV5, h1⟩) (fun I2 h1 => Or.inr (Or.inr ⟨rfl, h1⟩))
                  · unfold wd
                    rw [if_neg (by show ¬ (2 : Nat) = 0; omega), if_neg (by show ¬ (2 : Nat) = 3; omega), if_pos ⟨rfl, hx2⟩]
                    rfl
                  · unfold wX8_join
                    refine m_isNodeColumn h2 hwP hp hc ⟨fun z => absurd z (by decide), fun _ => m_isNodeColumn h2 hwP ho hdl ⟨fun z => absurd z (by decide), fun _ => hin _ _ ⟨fun z => ?_, fun _ => ⟨vp1, vp2, fun z6 => ?_, fun _ => ⟨fun _ => gwT h3, fun z => absurd z (by decide)⟩⟩⟩⟩⟩
                    · rw [l2] at z
                      omega
                    · rw [lm I2 h2] at z6
                      omega
                · rw [lw] at z
                  unfold wX8_join
                  refine m_isNodeColumn m2 hwP hp hc ⟨fun z => absurd z (by decide), fun _ => m_isNodeColumn m2 hwP ho hdl ⟨fun z => absurd z (by decide), fun _ => hin _ _ ⟨fun z => ?_, fun _ => ⟨vp1, vp2, fun _ => ⟨fun _ => gwF hK hL (by decide), fun z => absurd z (by decide)⟩, fun z6 => absurd ?_ z6⟩⟩⟩⟩
                  · rw [l2] at z
                    omega
                  · rw [lm I m2]
                    omega
              · refine p_widthJ2 c2 hwP hp (by omega) hx5 ⟨fun _ => ?_, fun z => absurd ?_ z⟩
                · refine b_made (q := (2, p, o + 1, x, c, nI d, (nd P p).2.2.2.2.2.2)) (c := 3) hK h hi (hq _ (by omega) w6 ?_) (by decide) (W := fun I Q => wX8_join (nI p) (nI o) (nI c) (nI d) (nI x) I Q) (Y := fun r1 I2 J3 => V1 ∧ (V2 ∧ (V3 ∧ (V4 ∧ (V5 ∧ wX8_join (nI p) (nI o) (nI c) (nI d) (nI x) I2 (fun r5 I4 => fin9 K post (nI (6 * i)) S I4 J3 (k + 1) (n + 6) r1 r5)))))) (fun I2 Q h1 h2 h3 => ?_) (fun r1 I2 J3 h1 => ⟨hV1, hV2, hV3, hV4, hV5, h1⟩) (fun I2 h1 => Or.inr (Or.inr ⟨rfl, h1⟩))
                  · unfold wd
                    rw [if_neg (by show ¬ (2 : Nat) = 0; omega), if_neg (by show ¬ (2 : Nat) = 3; omega), if_neg (fun z => hx2 z.2)]
                  · unfold wX8_join
                    exact m_isNodeColumn h2 hwP hp hc ⟨fun z => absurd z (by decide), fun _ => m_isNodeColumn h2 hwP ho hdl ⟨fun z => absurd z (by decide), fun _ => hin _ _ ⟨fun _ => ⟨fun _ => gwT h3, fun z => absurd z (by decide)⟩, fun z => absurd (by rw [l2]; omega) z⟩⟩⟩
                · show _ ≤ nI 6
                  rw [nI_leI (by omega) (by omega)]
                  exact w6
            · show nI x ≤ nI 4
              rw [nI_leI (by omega) (by omega)]
              omega
          · have M3 : wX8_join (nI p) (nI o) (nI c) (nI d) a5 I (fun r5 I4 => fin9 K post (nI (6 * i)) S I4 J (k + 1) (n + 6) 2 r5) := by
              unfold wX8_join
              exact m_isNodeColumn m2 hwP hp hc ⟨fun z => absurd z (by decide), fun _ => m_isNodeColumn m2 hwP ho hdl ⟨fun z => absurd z (by decide), fun _ => m_in3 (m := 4) (by omega) hx ⟨fun _ => ⟨fun z => absurd rfl z, fun _ => gwF hK hL (by decide)⟩, fun _ => ⟨vp1, vp2, fun _ => ⟨fun z => absurd rfl z, fun _ => gwF hK hL (by decide)⟩, fun _ => ⟨fun z => absurd rfl z, fun _ => gwF hK hL (by decide)⟩⟩⟩⟩⟩
            exact ⟨fun _ => Or.inr (Or.inl ⟨rfl, hV1, hV2, hV3, hV4, hV5, M3⟩), fun z => ⟨fun z2 => absurd hx (not_or.2 ⟨z, fun z3 => absurd (Int32.lt_of_lt_of_le (show (4 : Int32) < nI 5 by decide) z3) (Int32.not_lt.2 z2)⟩), fun _ => Or.inr (Or.inl ⟨rfl, hV1, hV2, hV3, hV4, hV5, M3⟩)⟩⟩
        · exact p_col_f c2 hwP ho hx ⟨fun z => absurd rfl z, fun _ => Or.inl ⟨rfl, hV1, hV2, hV3, hV4, hV5, M2 (fun Q hQ => m_isNodeColumn_f2 m2 hwP ho hx hQ)⟩⟩
      · exact p_col_f1 c2 hx ⟨fun z => absurd rfl z, fun _ => Or.inl ⟨rfl, hV1, hV2, hV3, hV4, hV5, M2 (fun Q hQ => m_isNodeColumn_f1 m2 hwP hx hQ)⟩⟩
    · exact p_col_f c2 hwP hp hx ⟨fun _ => Or.inl ⟨rfl, hV1, hV2, hV3, hV4, hV5, M1 (fun Q hQ => m_isNodeColumn_f2 m2 hwP hp hx hQ)⟩, fun z => absurd rfl z⟩
  · exact p_col_f1 c2 hx ⟨fun _ => Or.inl ⟨rfl, hV1, hV2, hV3, hV4, hV5, M1 (fun Q hQ => m_isNodeColumn_f1 m2 hwP hx hQ)⟩, fun z => absurd rfl z⟩
theorem L_5 {X : QX} (hl : X.2.1.2.1 ≤ 3072) (hi6 : 6 * i + 6 ≤ X.2.1.2.1) (hK : Kw9 K i) (h : LR i Z S I k n) : wL_c5 X K post (nI (6 * i)) S I J k n := by
  have hv : ∀ j : Nat, j < 6 → vp_in (nI (6 * i) + nI j) X.2.1.2.1 := fun j hj => by simp (disch := omega) only [fa_lit, nI_ltI, nI_leI, nI_eq, nI_add, pk_mul, nI_clamp, vp_in_nI, l_uk, l_n1, l_n1e, l_n1e2, l_n1l, l_n1l2, l_n1l3, not_true_eq_false, not_false_eq_true, true_implies, false_implies, true_and, and_true, and_self, forall_eq, bI_t, bI_f, Bool.false_eq_true, or_true, true_or, or_false, false_or, s1_ltx, if_true, if_false, Nat.add_zero, Nat.zero_add,  d_leF, d_leT, d_ltF, d_ltT, d_eqF, d_eqT]
  have hkn := h.kn
  exact ⟨hv 1 (by omega), hv 2 (by omega), hv 3 (by omega), hv 4 (by omega), hv 5 (by omega), hkn.1, hkn.2, b_join ⟨hv 1 (by omega), hv 2 (by omega), hv 3 (by omega), hv 4 (by omega), hv 5 (by omega)⟩ hK h (by omega)⟩
end LC
