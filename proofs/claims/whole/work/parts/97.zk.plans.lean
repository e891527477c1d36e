/-! pure: the law's calls: estimate, cost, split -/
section LC
variable {K : Int32 → QS → QI → QJ → Nat → Nat → Prop} {post : Int32 → Prop} {i k n : Nat} {Z : Zs} {S : QS} {I : QI} {J : QJ}
theorem Rc.pl {I I2 : QI} {Z : Zs} {i : Nat} (h : Rc I Z i) (hw : Rw Z) (e : ∀ b, b < 42 ∨ 46 ≤ b → I2 b = I b) : Rc I2 Z i := by
  obtain ⟨a, b, ⟨ch, c0, c⟩, d, f, g⟩ := h
  exact ⟨a.cg (fun b hb => e b (by omega)), b.cg (fun b _ hb => e b (by omega)), ⟨ch, c0, c.cg hw.2.1 (by rw [e 1 (by omega)]) (fun b _ hb => e b (by omega))⟩, by rw [e 0 (by omega)]; exact d, f.cg (fun b _ hb => e b (by omega)), g.cg (fun b hb _ => e b (by omega))⟩
theorem pw_4 {t : Nat} (h : t ≤ 4) : 2 ^ t ≤ 16 := (Nat.pow_le_pow_right (by decide) h : 2 ^ t ≤ 2 ^ 4)
theorem ixs (x : Int32) {t : Nat} (h : t ≤ 4) : (∃ s, 1 ≤ s ∧ s < 2 ^ t ∧ x = nI s) ∨ (x ≤ nI 0 ∨ nI (2 ^ t) ≤ x) := by
  have h16 := pw_4 h
  rcases ixc x (2 ^ t) (by omega) with ⟨j, hj, e⟩ | z | z
  · by_cases e0 : j = 0
    · subst e0
      exact Or.inr (Or.inl (by rw [e]; exact Int32.le_refl _))
    · exact Or.inl ⟨j, by omega, hj, e⟩
  · exact Or.inr (Or.inl (Int32.le_of_lt z))
  · exact Or.inr (Or.inr z)
theorem Fm.pl {I I3 : QI} (x : Int32) (h : ∀ b, b ≠ 76 → b ≠ 77 → I3 b = I b) : (∀ b, b < 51 → q_u2 I3 51 0 x b = I b) ∧ Fm I (q_u2 I3 51 0 x) := by
  have e : ∀ b, b ≠ 51 → b ≠ 76 → b ≠ 77 → q_u2 I3 51 0 x b = I b := fun b h1 h2 h3 => by rw [nr_u2 h1]; exact h b h2 h3
  have j : ∀ j, j ≠ 0 → q_u2 I3 51 0 x 51 j = I 51 j := fun j hj => by rw [q_u2_j _ _ _ hj, h 51 (by omega) (by omega)]
  exact ⟨fun b hb => e b (by omega) (by omega) (by omega), fun b hb => e b (by omega) (by omega) (by omega), j 1 (by omega), j 5 (by omega), j 13 (by omega), j 14 (by omega), j 16 (by omega), j 24 (by omega), j 27 (by omega)⟩
theorem b_estimate {V : Prop} {a : Int32} (hV : V) (hK : Kw9 K i) (h : LR i Z S I k n) (hi : i < 512) : wL_estimate a I J (fun r1 I2 J3 => V ∧ wX8_estimate a I2 (fun r5 I4 => fin9 K post (nI (6 * i)) S I4 J3 (k + 1) (n + 6) r1 r5)) := by
  have hL := h.nc hi
  obtain ⟨T, P, bu, Kk, Vv⟩ := Z
  have hw := h.2.1
  obtain ⟨hwT, hwP, hd, hbu, hwK, hwV⟩ := h.2.1
  have hRc := h.2.2.1
  obtain ⟨c1, c2, c3, c4, c5, c6⟩ := h.2.2.1
  obtain ⟨m1, m2, m3, m4, m5⟩ := h.2.2.2.1
  replace hwT : Tw T := hwT
  have t4 := hwT.1
  have h16 := pw_4 t4
  unfold wL_estimate wX7_estimate
  rcases ixs a t4 with ⟨s, s1, s2, rfl⟩ | hx
  · refine p_hasSet c1 hwT s1 s2 ⟨fun _ => ?_, fun z => absurd z (by decide)⟩
    refine p_measure c1 hwT c5 hwK (fun I2 hF hM => ?_)
    have hL2 : Lc i (T, P, bu, Kk, Vv) (T, P, bu, Kk, Vv) S I2 k n := h.lc hi hw (hRc.pl hw (fun b hb => hF b (by omega) (by omega))).up (fun b hb => hF b (by omega) (by omega))
    refine p_guess hwT (c5.cg (fun b _ _ => hF b (by omega) (by omega))) hwK hM (by omega) ⟨by simp (disch := omega) only [fa_lit, nI_ltI, nI_leI, nI_eq, nI_add, pk_mul, nI_clamp, vp_in_nI, l_uk, l_n1, l_n1e, l_n1e2, l_n1l, l_n1l2, l_n1l3, not_true_eq_false, not_false_eq_true, true_implies, false_implies, true_and, and_true, and_self, forall_eq, bI_t, bI_f, Bool.false_eq_true, or_true, true_or, or_false, false_or, s1_ltx, if_true, if_false, Nat.add_zero, Nat.zero_add,  d_leF, d_leT, d_ltF, d_ltT, d_eqF, d_eqT], fun J4 e4 => ⟨hV, ?_⟩⟩
    obtain ⟨t2, p2, b2, k2, v2⟩ := hL2.2.2.2.2.1
    refine m_isSet t2 hwT s1 s2 ⟨fun z => absurd z (by decide), fun _ => m_goesWell_0 ⟨fun z => absurd z (by decide), fun _ => ?_⟩⟩
    refine m_estimateOf (t2.cg (q_u2_j _ _ _ (by omega)) (fun b h1 h2 => nr_u2 (by omega))) hwT (k2.cg (q_u2_j _ _ _ (by omega)) (nr_u2 (by omega))) hwK (by omega) ?_
    refine m_yes hK hL2 ?_
    rw [e4]
    exact q_u2_s _ _ _ _
  · refine p_hasSet_f c1 hwT hx ⟨fun z => absurd rfl z, fun _ => ⟨rfl, hV, ?_⟩⟩
    exact m_isSet_f m1 hwT hx ⟨fun _ => m_goesWell_n (by decide) ⟨fun _ => m_no hK hL (by decide), fun z => absurd rfl z⟩, fun z => absurd rfl z⟩
theorem b_cost {V : Prop} {a : Int32} (hV : V) (hK : Kw9 K i) (h : LR i Z S I k n) (hi : i < 512) : wL_cost a I J (fun r1 I2 J3 => V ∧ wX8_cost a I2 (fun r5 I4 => fin9 K post (nI (6 * i)) S I4 J3 (k + 1) (n + 6) r1 r5)) := by
  have hL := h.nc hi
  obtain ⟨T, P, bu, Kk, Vv⟩ := Z
  have hw := h.2.1
  obtain ⟨hwT, hwP, hd, hbu, hwK, hwV⟩ := h.2.1
  have hRc := h.2.2.1
  obtain ⟨c1, c2, c3, c4, c5, c6⟩ := h.2.2.1
  obtain ⟨m1, m2, m3, m4, m5⟩ := h.2.2.2.1
  replace hwT : Tw T := hwT
  have t4 := hwT.1
  have h16 := pw_4 t4
  unfold wL_cost wX7_cost
  rcases ixs a t4 with ⟨s, s1, s2, rfl⟩ | hx
  · have hv : vp_in (nI s) 16 := by simp (disch := omega) only [fa_lit, nI_ltI, nI_leI, nI_eq, nI_add, pk_mul, nI_clamp, vp_in_nI, l_uk, l_n1, l_n1e, l_n1e2, l_n1l, l_n1l2, l_n1l3, not_true_eq_false, not_false_eq_true, true_implies, false_implies, true_and, and_true, and_self, forall_eq, bI_t, bI_f, Bool.false_eq_true, or_true, true_or, or_false, false_or, s1_ltx, if_true, if_false, Nat.add_zero, Nat.zero_add,  d_leF, d_leT, d_ltF, d_ltT, d_eqF, d_eqT]
    have ec : (nI s).toNatClampNeg = s := nI_clamp (by omega)
    refine p_hasSet c1 hwT s1 s2 ⟨fun _ => ?_, fun z => absurd z (by decide)⟩
    refine p_planUpTo c1 hwT c5 hwK (by omega) s1 (fun I2 hF h44 h45 => ?_)
    have hL2 : Lc i (T, P, bu, Kk, Vv) (T, P, bu, Kk, Vv) S I2 k n := h.lc hi hw (hRc.pl hw hF).up (fun b hb => hF b (by omega))
    refine ⟨fun z => absurd z (nI_nn (by omega)), fun _ => ⟨fun z => ?_, fun _ => ⟨hv, by simp (disch := omega) only [fa_lit, nI_ltI, nI_leI, nI_eq, nI_add, pk_mul, nI_clamp, vp_in_nI, l_uk, l_n1, l_n1e, l_n1e2, l_n1l, l_n1l2, l_n1l3, not_true_eq_false, not_false_eq_true, true_implies, false_implies, true_and, and_true, and_self, forall_eq, bI_t, bI_f, Bool.false_eq_true, or_true, true_or, or_false, false_or, s1_ltx, if_true, if_false, Nat.add_zero, Nat.zero_add,  d_leF, d_leT, d_ltF, d_ltT, d_eqF, d_eqT], fun J4 e4 => ⟨hV, ?_⟩⟩⟩⟩
    · have z : nI 16 ≤ nI s := z
      rw [nI_leI (by omega) (by omega)] at z
      omega
    obtain ⟨t2, p2, b2, k2, v2⟩ := hL2.2.2.2.2.1
    refine m_plan t2 hwT k2 hwK (fun I3 hF3 hC3 => ?_)
    obtain ⟨h76, h77⟩ := hC3 s s1 s2
    refine m_isSet (t2.cg (by rw [hF3 51 (by omega) (by omega)]) (fun b h1 h2 => hF3 b (by omega) (by omega))) hwT s1 s2 ⟨fun z => absurd z (by decide), fun _ => m_goesWell_0 ⟨fun z => absurd z (by decide), fun _ => ⟨hv, ?_⟩⟩⟩
    rw [ec, nr_u2 (show (76 : Nat) ≠ 51 by omega), h76]
    refine m_end hK hL2 (Fm.pl 0 hF3).1 (Fm.pl 0 hF3).2 (q_u2_s _ _ _ _) (fun _ => ?_)
    rw [e4, ec, h44]
    exact q_u2_s _ _ _ _
  · refine p_hasSet_f c1 hwT hx ⟨fun z => absurd rfl z, fun _ => ⟨rfl, hV, ?_⟩⟩
    refine m_plan m1 hwT m4 hwK (fun I3 hF3 hC3 => ?_)
    exact m_isSet_f (m1.cg (by rw [hF3 51 (by omega) (by omega)]) (fun b h1 h2 => hF3 b (by omega) (by omega))) hwT hx ⟨fun _ => m_goesWell_n (by decide) ⟨fun _ => m_end hK hL (Fm.pl 1 hF3).1 (Fm.pl 1 hF3).2 (q_u2_s _ _ _ _) (fun z => absurd z (by decide)), fun z => absurd rfl z⟩, fun z => absurd rfl z⟩
theorem b_split {V : Prop} {a : Int32} (hV : V) (hK : Kw9 K i) (h : LR i Z S I k n) (hi : i < 512) : wL_split a I J (fun r1 I2 J3 => V ∧ wX8_split a I2 (fun r5 I4 => fin9 K post (nI (6 * i)) S I4 J3 (k + 1) (n + 6) r1 r5)) := by
  have hL := h.nc hi
  obtain ⟨T, P, bu, Kk, Vv⟩ := Z
  have hw := h.2.1
  obtain ⟨hwT, hwP, hd, hbu, hwK, hwV⟩ := h.2.1
  have hRc := h.2.2.1
  obtain ⟨c1, c2, c3, c4, c5, c6⟩ := h.2.2.1
  obtain ⟨m1, m2, m3, m4, m5⟩ := h.2.2.2.1
  replace hwT : Tw T := hwT
  have t4 := hwT.1
  have h16 := pw_4 t4
  unfold wL_split wX7_split
  rcases ixs a t4 with ⟨s, s1, s2, rfl⟩ | hx
  · have hv : vp_in (nI s) 16 := by simp (disch := omega) only [fa_lit, nI_ltI, nI_leI, nI_eq, nI_add, pk_mul, nI_clamp, vp_in_nI, l_uk, l_n1, l_n1e, l_n1e2, l_n1l, l_n1l2, l_n1l3, not_true_eq_false, not_false_eq_true, true_implies, false_implies, true_and, and_true, and_self, forall_eq, bI_t, bI_f, Bool.false_eq_true, or_true, true_or, or_false, false_or, s1_ltx, if_true, if_false, Nat.add_zero, Nat.zero_add,  d_leF, d_leT, d_ltF, d_ltT, d_eqF, d_eqT]
    have ec : (nI s).toNatClampNeg = s := nI_clamp (by omega)
    refine p_hasSet c1 hwT s1 s2 ⟨fun _ => ?_, fun z => absurd z (by decide)⟩
    refine p_planUpTo c1 hwT c5 hwK (by omega) s1 (fun I2 hF h44 h45 => ?_)
    have hL2 : Lc i (T, P, bu, Kk, Vv) (T, P, bu, Kk, Vv) S I2 k n := h.lc hi hw (hRc.pl hw hF).up (fun b hb => hF b (by omega))
    refine ⟨fun z => absurd z (nI_nn (by omega)), fun _ => ⟨fun z => ?_, fun _ => ⟨hv, by simp (disch := omega) only [fa_lit, nI_ltI, nI_leI, nI_eq, nI_add, pk_mul, nI_clamp, vp_in_nI, l_uk, l_n1, l_n1e, l_n1e2, l_n1l, l_n1l2, l_n1l3, not_true_eq_false, not_false_eq_true, true_implies, false_implies, true_and, and_true, and_self, forall_eq, bI_t, bI_f, Bool.false_eq_true, or_true, true_or, or_false, false_or, s1_ltx, if_true, if_false, Nat.add_zero, Nat.zero_add,  d_leF, d_leT, d_ltF, d_ltT, d_eqF, d_eqT], fun J4 e4 => ⟨hV, ?_⟩⟩⟩⟩
    · have z : nI 16 ≤ nI s := z
      rw [nI_leI (by omega) (by omega)] at z
      omega
    obtain ⟨t2, p2, b2, k2, v2⟩ := hL2.2.2.2.2.1
    refine m_plan t2 hwT k2 hwK (fun I3 hF3 hC3 => ?_)
    obtain ⟨h76, h77⟩ := hC3 s s1 s2
    refine m_isSet (t2.cg (by rw [hF3 51 (by omega) (by omega)]) (fun b h1 h2 => hF3 b (by omega) (by omega))) hwT s1 s2 ⟨fun z => absurd z (by decide), fun _ => m_goesWell_0 ⟨fun z => absurd z (by decide), fun _ => ⟨hv, ?_⟩⟩⟩
    rw [ec, nr_u2 (show (77 : Nat) ≠ 51 by omega), h77]
    refine m_end hK hL2 (Fm.pl 0 hF3).1 (Fm.pl 0 hF3).2 (q_u2_s _ _ _ _) (fun _ => ?_)
    rw [e4, ec, h45]
    exact q_u2_s _ _ _ _
  · refine p_hasSet_f c1 hwT hx ⟨fun z => absurd rfl z, fun _ => ⟨rfl, hV, ?_⟩⟩
    refine m_plan m1 hwT m4 hwK (fun I3 hF3 hC3 => ?_)
    exact m_isSet_f (m1.cg (by rw [hF3 51 (by omega) (by omega)]) (fun b h1 h2 => hF3 b (by omega) (by omega))) hwT hx ⟨fun _ => m_goesWell_n (by decide) ⟨fun _ => m_end hK hL (Fm.pl 1 hF3).1 (Fm.pl 1 hF3).2 (q_u2_s _ _ _ _) (fun z => absurd z (by decide)), fun z => absurd rfl z⟩, fun z => absurd rfl z⟩
theorem L_16 {X : QX} (hl : X.2.1.2.1 ≤ 3072) (hi6 : 6 * i + 6 ≤ X.2.1.2.1) (hK : Kw9 K i) (h : LR i Z S I k n) : wL_c16 X K post (nI (6 * i)) S I J k n := by
  have hv : ∀ j : Nat, j < 6 → vp_in (nI (6 * i) + nI j) X.2.1.2.1 := fun j hj => by simp (disch := omega) only [fa_lit, nI_ltI, nI_leI, nI_eq, nI_add, pk_mul, nI_clamp, vp_in_nI, l_uk, l_n1, l_n1e, l_n1e2, l_n1l, l_n1l2, l_n1l3, not_true_eq_false, not_false_eq_true, true_implies, false_implies, true_and, and_true, and_self, forall_eq, bI_t, bI_f, Bool.false_eq_true, or_true, true_or, or_false, false_or, s1_ltx, if_true, if_false, Nat.add_zero, Nat.zero_add,  d_leF, d_leT, d_ltF, d_ltT, d_eqF, d_eqT]
  have hkn := h.kn
  exact ⟨hv 1 (by omega), hkn.1, hkn.2, b_estimate (hv 1 (by omega)) hK h (by omega)⟩
theorem L_17 {X : QX} (hl : X.2.1.2.1 ≤ 3072) (hi6 : 6 * i + 6 ≤ X.2.1.2.1) (hK : Kw9 K i) (h : LR i Z S I k n) : wL_c17 X K post (nI (6 * i)) S I J k n := by
  have hv : ∀ j : Nat, j < 6 → vp_in (nI (6 * i) + nI j) X.2.1.2.1 := fun j hj => by simp (disch := omega) only [fa_lit, nI_ltI, nI_leI, nI_eq, nI_add, pk_mul, nI_clamp, vp_in_nI, l_uk, l_n1, l_n1e, l_n1e2, l_n1l, l_n1l2, l_n1l3, not_true_eq_false, not_false_eq_true, true_implies, false_implies, true_and, and_true, and_self, forall_eq, bI_t, bI_f, Bool.false_eq_true, or_true, true_or, or_false, false_or, s1_ltx, if_true, if_false, Nat.add_zero, Nat.zero_add,  d_leF, d_leT, d_ltF, d_ltT, d_eqF, d_eqT]
  have hkn := h.kn
  exact ⟨hv 1 (by omega), hkn.1, hkn.2, b_cost (hv 1 (by omega)) hK h (by omega)⟩
theorem L_18 {X : QX} (hl : X.2.1.2.1 ≤ 3072) (hi6 : 6 * i + 6 ≤ X.2.1.2.1) (hK : Kw9 K i) (h : LR i Z S I k n) : wL_c18 X K post (nI (6 * i)) S I J k n := by
  have hv : ∀ j : Nat, j < 6 → vp_in (nI (6 * i) + nI j) X.2.1.2.1 := fun j hj => by simp (disch := omega) only [fa_lit, nI_ltI, nI_leI, nI_eq, nI_add, pk_mul, nI_clamp, vp_in_nI, l_uk, l_n1, l_n1e, l_n1e2, l_n1l, l_n1l2, l_n1l3, not_true_eq_false, not_false_eq_true, true_implies, false_implies, true_and, and_true, and_self, forall_eq, bI_t, bI_f, Bool.false_eq_true, or_true, true_or, or_false, false_or, s1_ltx, if_true, if_false, Nat.add_zero, Nat.zero_add,  d_leF, d_leT, d_ltF, d_ltT, d_eqF, d_eqT]
  have hkn := h.kn
  exact ⟨hv 1 (by omega), hkn.1, hkn.2, b_split (hv 1 (by omega)) hK h (by omega)⟩
end LC
