/-! pure: the law's calls: node -/
section LC
variable {K : Int32 → QS → QI → QJ → Nat → Nat → Prop} {post : Int32 → Prop} {i k n : Nat} {Z : Zs} {S : QS} {I : QI} {J : QJ}
theorem m_yes {x : Int32} {J4 : QJ} (hK : Kw9 K i) (h : Lc i Z Z S I k n) (hJ : J4 79 0 = x.toInt64) : fin9 K post (nI (6 * i)) S (q_u2 I 51 0 0) J4 (k + 1) (n + 6) 0 x := m_fin9 h.1 (q_u2_s _ _ _ _) (fun _ => hJ) (hK Z S _ J4 _ _ (h.fm (f_0 I 0).1 (f_0 I 0).2))
theorem j_s (J : QJ) (x : Int64) : q_u2 J 79 (0 : Int32).toNatClampNeg x 79 0 = x := q_u2_s _ _ _ _
theorem lt_of_ix {x : Int32} {a b : Int32} (h : x < a) (h2 : a ≤ b) : x < b := Int32.lt_of_lt_of_le h h2
theorem b_node {V1 V2 : Prop} {a1 a2 : Int32} (hV1 : V1) (hV2 : V2) (hK : Kw9 K i) (h : LR i Z S I k n) (hi : i < 512) : wL_node a1 a2 I J (fun r1 J3 => V1 ∧ (V2 ∧ wX8_node a1 a2 I (fun r5 I4 => fin9 K post (nI (6 * i)) S I4 J3 (k + 1) (n + 6) r1 r5))) := by
  have hL := h.nc hi
  obtain ⟨T, P, bu, Kk, Vv⟩ := Z
  obtain ⟨hwT, hwP, hd, -⟩ := h.2.1
  obtain ⟨-, hPc, -⟩ := h.2.2.1
  obtain ⟨-, hPm, -⟩ := h.2.2.2.1
  replace hwT : Tw T := hwT
  replace hwP : Pw T P := hwP
  replace hPc : Pc I P := hPc
  replace hPm : Pm I P := hPm
  have h24 := hwP.1
  unfold wL_node wX7_node wX8_node
  rcases ixc a1 P.length (by omega) with ⟨m, hm, rfl⟩ | hx
  · have hv : vp_in (nI m) 24 := by simp (disch := omega) only [fa_lit, nI_ltI, nI_leI, nI_eq, nI_add, pk_mul, nI_clamp, vp_in_nI, l_uk, l_n1, l_n1e, l_n1e2, l_n1l, l_n1l2, l_n1l3, not_true_eq_false, not_false_eq_true, true_implies, false_implies, true_and, and_true, and_self, forall_eq, bI_t, bI_f, Bool.false_eq_true, or_true, true_or, or_false, false_or, s1_ltx, if_true, if_false, Nat.add_zero, Nat.zero_add,  d_leF, d_leT, d_ltF, d_ltT, d_eqF, d_eqT]
    obtain ⟨p1, p2, p3, p4, p5, p6, p7⟩ := hPm.2 m hm
    have ec : (nI m).toNatClampNeg = m := nI_clamp (by omega)
    have eq : ∀ b : Nat, b ≠ 51 → q_u2 I 51 0 0 b m = I b m := fun b hb => by rw [nr_u2 hb]
    refine p_has hPc hwP hm ⟨fun _ => ?_, fun z => absurd z (by decide)⟩
    have good : ∀ (x : Int32) (J4 : QJ), J4 = q_u2 J 79 (0 : Int32).toNatClampNeg (x.toInt64) → fin9 K post (nI (6 * i)) S (q_u2 I 51 0 0) J4 (k + 1) (n + 6) 0 x := fun x J4 e4 => m_yes hK hL (by rw [e4]; exact j_s J _)
    have hin : ∀ y : Int32, ¬ y < 0 → ¬ 3 < y → ∀ Q : Int32 → Prop, Q 1 → wX8_in y 0 3 I Q := fun y h1 h2 Q hQ => ⟨fun z => absurd z h1, fun _ => ⟨fun z => absurd z h2, fun _ => hQ⟩⟩
    refine ⟨fun z => ?_, fun z => ?_, fun z => ?_, fun z => ?_, fun z0 z1 z2 z3 => ?_⟩
    · refine p_typeOf hPc hwP hm ⟨by simp (disch := omega) only [fa_lit, nI_ltI, nI_leI, nI_eq, nI_add, pk_mul, nI_clamp, vp_in_nI, l_uk, l_n1, l_n1e, l_n1e2, l_n1l, l_n1l2, l_n1l3, not_true_eq_false, not_false_eq_true, true_implies, false_implies, true_and, and_true, and_self, forall_eq, bI_t, bI_f, Bool.false_eq_true, or_true, true_or, or_false, false_or, s1_ltx, if_true, if_false, Nat.add_zero, Nat.zero_add,  d_leF, d_leT, d_ltF, d_ltT, d_eqF, d_eqT], fun J4 e4 => ⟨hV1, hV2, ?_⟩⟩
      subst z
      refine m_isNode hPm hwP hm ⟨fun _ => hin _ (by decide) (by decide) _ ⟨fun z => absurd z (by decide), fun _ => m_goesWell_0 ⟨fun _ => ⟨fun z => absurd rfl z, fun _ => ⟨hv, ?_⟩⟩, fun z => absurd z (by decide)⟩⟩, fun z => absurd z (by decide)⟩
      rw [ec, eq 55 (by omega), p1]
      exact good _ J4 e4
    · refine p_firstOf hPc hwP hm ⟨by simp (disch := omega) only [fa_lit, nI_ltI, nI_leI, nI_eq, nI_add, pk_mul, nI_clamp, vp_in_nI, l_uk, l_n1, l_n1e, l_n1e2, l_n1l, l_n1l2, l_n1l3, not_true_eq_false, not_false_eq_true, true_implies, false_implies, true_and, and_true, and_self, forall_eq, bI_t, bI_f, Bool.false_eq_true, or_true, true_or, or_false, false_or, s1_ltx, if_true, if_false, Nat.add_zero, Nat.zero_add,  d_leF, d_leT, d_ltF, d_ltT, d_eqF, d_eqT], fun J4 e4 => ⟨hV1, hV2, ?_⟩⟩
      subst z
      refine m_isNode hPm hwP hm ⟨fun _ => hin _ (by decide) (by decide) _ ⟨fun z => absurd z (by decide), fun _ => m_goesWell_0 ⟨fun _ => ⟨fun _ => ⟨fun z => absurd rfl z, fun _ => ⟨hv, ?_⟩⟩, fun z => absurd z (by decide)⟩, fun z => absurd z (by decide)⟩⟩, fun z => absurd z (by decide)⟩
      rw [ec, eq 56 (by omega), p2]
      exact good _ J4 e4
    · refine p_secondOf hPc hwP hm ⟨by simp (disch := omega) only [fa_lit, nI_ltI, nI_leI, nI_eq, nI_add, pk_mul, nI_clamp, vp_in_nI, l_uk, l_n1, l_n1e, l_n1e2, l_n1l, l_n1l2, l_n1l3, not_true_eq_false, not_false_eq_true, true_implies, false_implies, true_and, and_true, and_self, forall_eq, bI_t, bI_f, Bool.false_eq_true, or_true, true_or, or_false, false_or, s1_ltx, if_true, if_false, Nat.add_zero, Nat.zero_add,  d_leF, d_leT, d_ltF, d_ltT, d_eqF, d_eqT], fun J4 e4 => ⟨hV1, hV2, ?_⟩⟩
      subst z
      refine m_isNode hPm hwP hm ⟨fun _ => hin _ (by decide) (by decide) _ ⟨fun z => absurd z (by decide), fun _ => m_goesWell_0 ⟨fun _ => ⟨fun _ => ⟨fun _ => ⟨fun z => absurd rfl z, fun _ => ⟨hv, ?_⟩⟩, fun z => absurd z (by decide)⟩, fun z => absurd z (by decide)⟩, fun z => absurd z (by decide)⟩⟩, fun z => absurd z (by decide)⟩
      rw [ec, eq 57 (by omega), p3]
      exact good _ J4 e4
    · refine p_widthOf hPc hwP hm ⟨by simp (disch := omega) only [fa_lit, nI_ltI, nI_leI, nI_eq, nI_add, pk_mul, nI_clamp, vp_in_nI, l_uk, l_n1, l_n1e, l_n1e2, l_n1l, l_n1l2, l_n1l3, not_true_eq_false, not_false_eq_true, true_implies, false_implies, true_and, and_true, and_self, forall_eq, bI_t, bI_f, Bool.false_eq_true, or_true, true_or, or_false, false_or, s1_ltx, if_true, if_false, Nat.add_zero, Nat.zero_add,  d_leF, d_leT, d_ltF, d_ltT, d_eqF, d_eqT], fun J4 e4 => ⟨hV1, hV2, ?_⟩⟩
      subst z
      refine m_isNode hPm hwP hm ⟨fun _ => hin _ (by decide) (by decide) _ ⟨fun z => absurd z (by decide), fun _ => m_goesWell_0 ⟨fun _ => ⟨fun _ => ⟨fun _ => ⟨fun _ => ⟨hv, ?_⟩, fun z => absurd z (by decide)⟩, fun z => absurd z (by decide)⟩, fun z => absurd z (by decide)⟩, fun z => absurd z (by decide)⟩⟩, fun z => absurd z (by decide)⟩
      rw [ec, eq 61 (by omega), p7]
      exact good _ J4 e4
    · have hno : a2 < 0 ∨ 3 < a2 := by
        rcases ixc a2 4 (by omega) with ⟨j, hj, rfl⟩ | z | z
        · exfalso
          have : j = 0 ∨ j = 1 ∨ j = 2 ∨ j = 3 := by omega
          rcases this with e | e | e | e <;> subst e
          · exact z0 rfl
          · exact z1 rfl
          · exact z2 rfl
          · exact z3 rfl
        · exact Or.inl z
        · exact Or.inr (Int32.lt_of_lt_of_le (by decide) z)
      refine Or.inr ⟨rfl, hV1, hV2, ?_⟩
      have hin0 : ∀ Q : Int32 → Prop, Q 0 → wX8_in a2 0 3 I Q := fun Q hQ => ⟨fun _ => hQ, fun y => ⟨fun _ => hQ, fun y2 => absurd hno (not_or.2 ⟨y, y2⟩)⟩⟩
      exact m_isNode hPm hwP hm ⟨fun _ => hin0 _ ⟨fun _ => m_goesWell_n (by decide) ⟨fun z => absurd rfl z, fun _ => m_no hK hL (by decide)⟩, fun z => absurd rfl z⟩, fun z => absurd z (by decide)⟩
  · refine p_has_f hPc hx ⟨fun z => absurd rfl z, fun _ => Or.inl ⟨rfl, hV1, hV2, ?_⟩⟩
    exact m_isNode_f hPm hwP hx ⟨fun z => absurd rfl z, fun _ => m_goesWell_n (by decide) ⟨fun z => absurd rfl z, fun _ => m_no hK hL (by decide)⟩⟩
theorem L_14 {X : QX} (hl : X.2.1.2.1 ≤ 3072) (hi6 : 6 * i + 6 ≤ X.2.1.2.1) (hK : Kw9 K i) (h : LR i Z S I k n) : wL_c14 X K post (nI (6 * i)) S I J k n := by
  have hv : ∀ j : Nat, j < 6 → vp_in (nI (6 * i) + nI j) X.2.1.2.1 := fun j hj => by simp (disch := omega) only [fa_lit, nI_ltI, nI_leI, nI_eq, nI_add, pk_mul, nI_clamp, vp_in_nI, l_uk, l_n1, l_n1e, l_n1e2, l_n1l, l_n1l2, l_n1l3, not_true_eq_false, not_false_eq_true, true_implies, false_implies, true_and, and_true, and_self, forall_eq, bI_t, bI_f, Bool.false_eq_true, or_true, true_or, or_false, false_or, s1_ltx, if_true, if_false, Nat.add_zero, Nat.zero_add,  d_leF, d_leT, d_ltF, d_ltT, d_eqF, d_eqT]
  have hkn := h.kn
  exact ⟨hv 1 (by omega), hv 2 (by omega), hkn.1, hkn.2, b_node (hv 1 (by omega)) (hv 2 (by omega)) hK h (by omega)⟩
end LC
