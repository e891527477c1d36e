/-! pure: the law's calls: filter, join, group, bag -/
section LC
variable {K : Int32 → QS → QI → QJ → Nat → Nat → Prop} {post : Int32 → Prop} {i k n : Nat} {Z : Zs} {S : QS} {I : QI} {J : QJ}
theorem m_in_kv {x : Int32} {Q : Int32 → Prop} (h : Q (bI (kv x))) : wX8_in x (-99) 99 I Q := by
  unfold wX8_in
  refine ⟨fun e1 => ?_, fun e1 => ⟨fun e2 => ?_, fun e2 => ?_⟩⟩
  · have e3 : kv x = false := by unfold kv; exact decide_eq_false (fun z => z.1 e1)
    rw [e3] at h
    exact h
  · have e3 : kv x = false := by unfold kv; exact decide_eq_false (fun z => z.2 e2)
    rw [e3] at h
    exact h
  · have e3 : kv x = true := by unfold kv; exact decide_eq_true ⟨e1, e2⟩
    rw [e3] at h
    exact h
theorem m_in3 {x : Int32} {m : Nat} {Q : Int32 → Prop} (hm : m < 2 ^ 30) (hx : x < 0 ∨ nI (m + 1) ≤ x) (h : Q 0) : wX8_in x 0 (nI m) I Q := by
  unfold wX8_in
  refine ⟨fun _ => h, fun e => ⟨fun _ => h, fun e2 => ?_⟩⟩
  refine absurd hx (not_or.mpr ⟨e, fun z => e2 (Int32.lt_of_lt_of_le ?_ z)⟩)
  rw [nI_ltI (by omega) (by omega)]
  omega
theorem m_in4 {j m : Nat} {Q : Int32 → Prop} (hj : j ≤ m) (hm : m < 2 ^ 30) (h : Q 1) : wX8_in (nI j) 0 (nI m) I Q := by
  unfold wX8_in
  simp (disch := omega) only [fa_lit, nI_ltI, nI_leI, nI_eq, nI_add, pk_mul, nI_clamp, vp_in_nI, l_uk, l_n1, l_n1e, l_n1e2, l_n1l, l_n1l2, l_n1l3, not_true_eq_false, not_false_eq_true, true_implies, false_implies, true_and, and_true, and_self, forall_eq, bI_t, bI_f, Bool.false_eq_true, or_true, true_or, or_false, false_or, s1_ltx, if_true, if_false, Nat.add_zero, Nat.zero_add,  d_leF, d_leT, d_ltF, d_ltT, d_eqF, d_eqT]
  exact h
theorem b_filter {V1 V2 V3 V4 : Prop} {a1 a2 a3 a4 : Int32} (hV : V1 ∧ V2 ∧ V3 ∧ V4) (hK : Kw9 K i) (h : LR i Z S I k n) (hi : i < 512) : wL_filter a1 a2 a3 a4 I J (fun r1 I2 J3 => V1 ∧ (V2 ∧ (V3 ∧ (V4 ∧ wX8_filter a1 a2 a3 a4 I2 (fun r5 I4 => fin9 K post (nI (6 * i)) S I4 J3 (k + 1) (n + 6) r1 r5))))) := by
  have hL := h.nc hi
  obtain ⟨T, P, bu, Kk, Vv⟩ := Z
  obtain ⟨hwT, hwP, hd, hbu, hwK, hwV⟩ := h.2.1
  obtain ⟨c1, c2, -⟩ := h.2.2.1
  obtain ⟨m1, m2, -⟩ := h.2.2.2.1
  obtain ⟨hV1, hV2, hV3, hV4⟩ := hV
  replace hwT : Tw T := hwT
  replace hwP : Pw T P := hwP
  replace c2 : Pc I P := c2
  replace m2 : Pm I P := m2
  have h24 := hwP.1
  have M1 : (∀ Q : Int32 → Prop, Q 0 → wX8_isNodeColumn a1 a2 I Q) → wX8_filter a1 a2 a3 a4 I (fun r5 I4 => fin9 K post (nI (6 * i)) S I4 J (k + 1) (n + 6) 1 r5) := by
    intro hn
    unfold wX8_filter
    exact hn _ (m_in_any (fun r2 => ⟨fun _ => ⟨fun z => absurd rfl z, fun _ => gwF hK hL (by decide)⟩, fun _ => ⟨fun _ => ⟨fun _ => ⟨fun z => absurd rfl z, fun _ => gwF hK hL (by decide)⟩, fun _ => ⟨fun z => absurd rfl z, fun _ => gwF hK hL (by decide)⟩⟩, fun _ => m_in_any (fun r27 => ⟨fun _ => ⟨fun z => absurd rfl z, fun _ => gwF hK hL (by decide)⟩, fun _ => ⟨fun z => absurd rfl z, fun _ => gwF hK hL (by decide)⟩⟩)⟩⟩))
  unfold wL_filter wX7_filter
  rcases ixc a1 P.length (by omega) with ⟨m, hm, rfl⟩ | hx
  · have w6 := (hwP.2 m hm).1.2.2.2.2.2.2
    have w1 := (hwP.2 m hm).1.2.2.2.2.2.1
    rcases ixc a2 (nd P m).2.2.2.2.2.2 (by omega) with ⟨c, hc, rfl⟩ | hx
    · refine p_col c2 hwP hm hc ⟨fun _ => ?_, fun z => absurd z (by decide)⟩
      rcases ixc a3 6 (by omega) with ⟨x, hx6, rfl⟩ | hx
      · have hin : ∀ (I : QI) (Q : Int32 → Prop), Q 1 → wX8_in (nI x) 0 5 I Q := fun I Q hQ => m_in4 (m := 5) (by omega) (by omega) hQ
        refine ⟨fun z => absurd z (nI_nn (by omega)), fun _ => ⟨fun z => ?_, fun _ => ?_⟩⟩
        · replace z : nI 5 < nI x := z
          rw [nI_ltI (by omega) (by omega)] at z
          omega
        refine p_isKnownValue ?_
        have l4 : (nI x < (4 : Int32)) = (x < 4) := by
          show (nI x < nI 4) = _
          rw [nI_ltI (by omega) (by omega)]
        have l4' : ((4 : Int32) ≤ nI x) = (4 ≤ x) := by
          show (nI 4 ≤ nI x) = _
          rw [nI_leI (by omega) (by omega)]
        cases hkv : kv a4
        · refine ⟨fun z => absurd rfl z, fun _ => Or.inr (Or.inl ⟨rfl, hV1, hV2, hV3, hV4, ?_⟩)⟩
          have na : ¬ a4 = 0 := fun z => by rw [z] at hkv; exact absurd hkv (by decide)
          unfold wX8_filter
          refine m_isNodeColumn m2 hwP hm hc (hin _ _ ⟨fun z => absurd z (by decide), fun _ => ⟨fun _ => ⟨fun _ => ⟨fun _ => gwF hK hL (by decide), fun z => absurd z (by decide)⟩, fun z => absurd z na⟩, fun _ => m_in_kv ?_⟩⟩)
          rw [hkv]
          exact ⟨fun _ => ⟨fun _ => gwF hK hL (by decide), fun z => absurd z (by decide)⟩, fun z => absurd rfl z⟩
        · have hq : nW T P P.length (1, m, 0, x, c, a4, (nd P m).2.2.2.2.2.2) := ⟨⟨by show (1 : Nat) < 5; omega, by show m < 24; omega, by show (0 : Nat) ≤ 24; omega, hx6, by show c < 6; omega, w1, w6⟩, rfl, fun z => absurd z (by show ¬ (1 : Nat) = 0; omega), fun _ => hm, fun _ => ⟨rfl, hc, hkv⟩, fun z => absurd z (by show ¬ (1 : Nat) = 2; omega), fun z => absurd z (by show ¬ (1 : Nat) = 3; omega), fun z => absurd z (by show ¬ (1 : Nat) = 4; omega)⟩
          have hW : (4 ≤ x → a4 = 0) → ∀ (I2 : QI) (Q : Int32 → QI → Prop), Tm I2 T → Pm I2 P → wX8_made 1 (nI m) (-1) (nI c) (nI x) a4 3 (q_u2 I2 51 0 0) Q → wX8_filter (nI m) (nI c) (nI x) a4 I2 Q := by
            intro h4 I2 Q h1 h2 h3
            unfold wX8_filter
            refine m_isNodeColumn h2 hwP hm hc (hin _ _ ⟨fun z => absurd z (by decide), fun _ => ⟨fun z => ⟨fun z2 => absurd (h4 (by rw [l4'] at z; exact z)) z2, fun _ => ⟨fun _ => gwT h3, fun z => absurd z (by decide)⟩⟩, fun _ => m_in_kv ?_⟩⟩)
            rw [hkv]
            exact ⟨fun z => absurd z (by decide), fun _ => ⟨fun _ => gwT h3, fun z => absurd z (by decide)⟩⟩
          refine ⟨fun _ => ⟨fun z => b_made (q := (1, m, 0, x, c, a4, (nd P m).2.2.2.2.2.2)) (c := 3) hK h hi hq (by decide) (W := fun I Q => wX8_filter (nI m) (nI c) (nI x) a4 I Q) (Y := fun r1 I2 J3 => V1 ∧ (V2 ∧ (V3 ∧ (V4 ∧ wX8_filter (nI m) (nI c) (nI x) a4 I2 (fun r5 I4 => fin9 K post (nI (6 * i)) S I4 J3 (k + 1) (n + 6) r1 r5))))) (hW (fun z2 => ?_)) (fun r1 I2 J3 h1 => ⟨hV1, hV2, hV3, hV4, h1⟩) (fun I2 h1 => Or.inr (Or.inr ⟨rfl, h1⟩)), fun z => ⟨fun z2 => b_made (q := (1, m, 0, x, c, a4, (nd P m).2.2.2.2.2.2)) (c := 3) hK h hi hq (by decide) (W := fun I Q => wX8_filter (nI m) (nI c) (nI x) a4 I Q) (Y := fun r1 I2 J3 => V1 ∧ (V2 ∧ (V3 ∧ (V4 ∧ wX8_filter (nI m) (nI c) (nI x) a4 I2 (fun r5 I4 => fin9 K post (nI (6 * i)) S I4 J3 (k + 1) (n + 6) r1 r5))))) (hW (fun _ => z2)) (fun r1 I2 J3 h1 => ⟨hV1, hV2, hV3, hV4, h1⟩) (fun I2 h1 => Or.inr (Or.inr ⟨rfl, h1⟩)), fun z2 => Or.inr (Or.inl ⟨rfl, hV1, hV2, hV3, hV4, ?_⟩)⟩⟩, fun z => absurd z (by decide)⟩
          · rw [l4] at z
            omega
          · rw [l4] at z
            unfold wX8_filter
            exact m_isNodeColumn m2 hwP hm hc (hin _ _ ⟨fun z => absurd z (by decide), fun _ => ⟨fun _ => ⟨fun _ => ⟨fun _ => gwF hK hL (by decide), fun z => absurd z (by decide)⟩, fun z3 => absurd z3 z2⟩, fun z3 => absurd (by rw [l4']; omega) z3⟩⟩)
      · have M2 : wX8_filter (nI m) (nI c) a3 a4 I (fun r5 I4 => fin9 K post (nI (6 * i)) S I4 J (k + 1) (n + 6) 2 r5) := by
          unfold wX8_filter
          exact m_isNodeColumn m2 hwP hm hc (m_in3 (m := 5) (by omega) hx ⟨fun _ => ⟨fun _ => gwF hK hL (by decide), fun z => absurd z (by decide)⟩, fun z => absurd rfl z⟩)
        exact ⟨fun _ => Or.inr (Or.inl ⟨rfl, hV1, hV2, hV3, hV4, M2⟩), fun z => ⟨fun _ => Or.inr (Or.inl ⟨rfl, hV1, hV2, hV3, hV4, M2⟩), fun z2 => absurd hx (not_or.2 ⟨z, fun z3 => z2 (Int32.lt_of_lt_of_le (by decide) z3)⟩)⟩⟩
    · exact p_col_f c2 hwP hm hx ⟨fun z => absurd rfl z, fun _ => Or.inl ⟨rfl, hV1, hV2, hV3, hV4, M1 (fun Q hQ => m_isNodeColumn_f2 m2 hwP hm hx hQ)⟩⟩
  · exact p_col_f1 c2 hx ⟨fun z => absurd rfl z, fun _ => Or.inl ⟨rfl, hV1, hV2, hV3, hV4, M1 (fun Q hQ => m_isNodeColumn_f1 m2 hwP hx hQ)⟩⟩
theorem L_4 {X : QX} (hl : X.2.1.2.1 ≤ 3072) (hi6 : 6 * i + 6 ≤ X.2.1.2.1) (hK : Kw9 K i) (h : LR i Z S I k n) : wL_c4 X K post (nI (6 * i)) S I J k n := by
  have hv : ∀ j : Nat, j < 6 → vp_in (nI (6 * i) + nI j) X.2.1.2.1 := fun j hj => by simp (disch := omega) only [fa_lit, nI_ltI, nI_leI, nI_eq, nI_add, pk_mul, nI_clamp, vp_in_nI, l_uk, l_n1, l_n1e, l_n1e2, l_n1l, l_n1l2, l_n1l3, not_true_eq_false, not_false_eq_true, true_implies, false_implies, true_and, and_true, and_self, forall_eq, bI_t, bI_f, Bool.false_eq_true, or_true, true_or, or_false, false_or, s1_ltx, if_true, if_false, Nat.add_zero, Nat.zero_add,  d_leF, d_leT, d_ltF, d_ltT, d_eqF, d_eqT]
  have hkn := h.kn
  exact ⟨hv 1 (by omega), hv 2 (by omega), hv 3 (by omega), hv 4 (by omega), hkn.1, hkn.2, b_filter ⟨hv 1 (by omega), hv 2 (by omega), hv 3 (by omega), hv 4 (by omega)⟩ hK h (by omega)⟩
end LC
