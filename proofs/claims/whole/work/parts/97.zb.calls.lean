/-! pure: the law's calls: budget, node -/
section LC
variable {K : Int32 → QS → QI → QJ → Nat → Nat → Prop} {post : Int32 → Prop} {i k n : Nat} {Z : Zs} {S : QS} {I : QI} {J : QJ}
theorem LR.nc (h : LR i Z S I k n) (hi : i < 512) : Lc i Z Z S I k n := h.lc hi h.2.1 h.2.2.1.up (fun b hb => rfl)
theorem b_budget {V : Prop} {a : Int32} (hV : V) (hK : Kw9 K i) (h : LR i Z S I k n) (hi : i < 512) : wL_budget a I J (fun r1 I2 J3 => V ∧ wX8_budget a I2 (fun r5 I4 => fin9 K post (nI (6 * i)) S I4 J3 (k + 1) (n + 6) r1 r5)) := by
  obtain ⟨T, P, bu, Kk, Vv⟩ := Z
  unfold wL_budget wX7_budget wX8_budget
  refine ⟨fun ha => ⟨rfl, hV, ?_⟩, fun ha => ⟨fun hb => ?_, fun hb => ⟨rfl, hV, ?_⟩⟩⟩
  · exact ⟨fun _ => ⟨fun _ => m_goesWell_n (by decide) ⟨fun z => absurd rfl z, fun _ => m_no hK (h.nc hi) (by decide)⟩, fun z => absurd rfl z⟩, fun z => absurd ha z⟩
  · intro v1 e1 I2 e2
    refine ⟨by simp (disch := omega) only [fa_lit, nI_ltI, nI_leI, nI_eq, nI_add, pk_mul, nI_clamp, vp_in_nI, l_uk, l_n1, l_n1e, l_n1e2, l_n1l, l_n1l2, l_n1l3, not_true_eq_false, not_false_eq_true, true_implies, false_implies, true_and, and_true, and_self, forall_eq, bI_t, bI_f, Bool.false_eq_true, or_true, true_or, or_false, false_or, s1_ltx, if_true, if_false, Nat.add_zero, Nat.zero_add,  d_leF, d_leT, d_ltF, d_ltT, d_eqF, d_eqT], fun J4 e4 => ⟨hV, fun z => absurd z ha, fun _ => ⟨fun z => absurd hb (Int32.not_le.2 z), fun _ => ⟨fun z => absurd z (by decide), fun _ => m_goesWell_0 ⟨fun _ => ?_, fun z => absurd z (by decide)⟩⟩⟩⟩⟩
    intro v8 e8 I9 e9
    obtain ⟨b, hb2, rfl⟩ : ∃ b : Nat, b < 100001 ∧ a = nI b := by
      rcases ixc a 100001 (by omega) with z | z | z
      · exact z
      · exact absurd (Int32.lt_trans z (by decide)) ha
      · exact absurd (Int32.lt_of_lt_of_le (show (100000 : Int32) < nI 100001 by decide) z) (Int32.not_lt.2 hb)
    have hw := h.2.1
    obtain ⟨c1, c2, ⟨ch, c0, c3⟩, c4, c5, c6⟩ := h.2.2.1
    have eb : ∀ x, x ≠ 0 → I2 x = I x := fun x hx => by rw [e2, nr_u2 hx]
    have hw2 : Rw (T, P, b, Kk, Vv) := ⟨hw.1, hw.2.1, hw.2.2.1, by show b ≤ 100000; omega, hw.2.2.2.2⟩
    have hc : Rc I2 (T, P, b, Kk, Vv) (i + 1) := by
      refine ⟨?_, c2.cg (fun x h1 _ => eb x (by omega)), ⟨ch, by omega, c3.cg hw.2.1 (by rw [eb 1 (by omega)]) (fun x h1 _ => eb x (by omega))⟩, by rw [e2, q_u2_s], c5.cg (fun x h1 _ => eb x (by omega)), c6.cg (fun x h1 _ => eb x (by omega))⟩
      refine ⟨by rw [eb 1 (by omega)]; exact c1.1, fun t ht => ?_⟩
      rw [eb (3 + 3 * t) (by omega), eb (4 + 3 * t) (by omega)]
      exact c1.2 t ht
    have hl : Lc i (T, P, bu, Kk, Vv) (T, P, b, Kk, Vv) S I2 k n := h.lc hi hw2 hc (fun x hx => eb x (by omega))
    have ej : ∀ j, j ≠ 0 → j ≠ 13 → I9 51 j = I2 51 j := fun j h0 h1 => by rw [e9, q_u2_j _ _ _ h1, q_u2_j _ _ _ h0]
    have ex : ∀ x, x ≠ 51 → I9 x = I2 x := fun x hx => by rw [e9, nr_u2 hx, nr_u2 hx]
    obtain ⟨m1, m2, m3, m4, m5⟩ := hl.2.2.2.2.1
    have h13 : I 51 13 = nI bu := h.2.2.2.1.2.2.1
    refine m_fin9 hi ?_ (fun _ => ?_) (hK (T, P, b, Kk, Vv) S I9 J4 _ _ (hl.lr (fun x hx => ex x (by omega)) ⟨m1.cg (ej 1 (by omega) (by omega)) (fun x _ _ => ex x (by omega)), m2.cg (ej 5 (by omega) (by omega)) (fun x _ _ => ex x (by omega)), by rw [e9, q_u2_s], m4.cg (ej 14 (by omega) (by omega)) (ex 62 (by omega)), m5.cg (ej 16 (by omega) (by omega)) (ex 63 (by omega))⟩ (ej 24 (by omega) (by omega)) (ej 27 (by omega) (by omega)) (fun x hx => ex x (by omega))))
    · rw [e9, q_u2_j _ _ _ (by omega)]
      exact q_u2_s _ _ _ _
    · have k8 : v8 = nI bu := by
        rw [e8, q_u2_j _ _ _ (show (13 : Nat) ≠ 0 by omega), eb 51 (by omega)]
        exact h13
      have k1 : v1 = nI bu := e1.trans c4
      rw [e4, k8, k1]
      exact q_u2_s _ _ _ _
  · exact ⟨fun _ => ⟨fun _ => m_goesWell_n (by decide) ⟨fun z => absurd rfl z, fun _ => m_no hK (h.nc hi) (by decide)⟩, fun z => absurd rfl z⟩, fun _ => ⟨fun _ => ⟨fun _ => m_goesWell_n (by decide) ⟨fun z => absurd rfl z, fun _ => m_no hK (h.nc hi) (by decide)⟩, fun z => absurd rfl z⟩, fun z => absurd (Int32.not_lt.1 z) hb⟩⟩
theorem L_12 {X : QX} (hl : X.2.1.2.1 ≤ 3072) (hi6 : 6 * i + 6 ≤ X.2.1.2.1) (hK : Kw9 K i) (h : LR i Z S I k n) : wL_c12 X K post (nI (6 * i)) S I J k n := by
  have hv : ∀ j : Nat, j < 6 → vp_in (nI (6 * i) + nI j) X.2.1.2.1 := fun j hj => by simp (disch := omega) only [fa_lit, nI_ltI, nI_leI, nI_eq, nI_add, pk_mul, nI_clamp, vp_in_nI, l_uk, l_n1, l_n1e, l_n1e2, l_n1l, l_n1l2, l_n1l3, not_true_eq_false, not_false_eq_true, true_implies, false_implies, true_and, and_true, and_self, forall_eq, bI_t, bI_f, Bool.false_eq_true, or_true, true_or, or_false, false_or, s1_ltx, if_true, if_false, Nat.add_zero, Nat.zero_add,  d_leF, d_leT, d_ltF, d_ltT, d_eqF, d_eqT]
  have hkn := h.kn
  exact ⟨hv 1 (by omega), hkn.1, hkn.2, b_budget (hv 1 (by omega)) hK h (by omega)⟩
end LC
