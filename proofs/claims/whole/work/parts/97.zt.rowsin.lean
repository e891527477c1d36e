/-! pure: the law's calls: add -/
section LC
theorem Pw_tv {T : QT} {P : List Nd} {R : Nat → Nat} {W : Nat → Nat → Nat → Int32} (h : Pw T P) : Pw (T.1, T.2.1, R, W) P := ⟨h.1, fun m hm => h.2 m hm⟩
theorem Kw_tv {T : QT} {V : List Q4} {R : Nat → Nat} {W : Nat → Nat → Nat → Int32} (h : Kw T V) : Kw (T.1, T.2.1, R, W) V := ⟨h.1, fun v hv => h.2 v hv⟩
theorem Vw_tv {T : QT} {V : List Q4} {R : Nat → Nat} {W : Nat → Nat → Nat → Int32} (h : Vw T V) : Vw (T.1, T.2.1, R, W) V := ⟨h.1, fun v hv => h.2 v hv⟩
variable {K : Int32 → QS → QI → QJ → Nat → Nat → Prop} {post : Int32 → Prop} {i k n : Nat} {Z : Zs} {S : QS} {I : QI} {J : QJ}
theorem Rc.chg {I2 : QI} {T T2 : QT} {P : List Nd} {bu : Nat} {Kk Vv : List Q4} (h : Rc I (T, P, bu, Kk, Vv) i) (hi : i < 512) (hT : Tc I2 T2) (hF : ∀ b, 15 ≤ b ∨ b = 0 → I2 b = I b) (h12 : I2 1 2 = I 1 2 + 1) : Rc I2 (T2, P, bu, Kk, Vv) (i + 1) := by
  obtain ⟨a, b, ⟨ch, c0, c⟩, d, f, g⟩ := h
  refine ⟨hT, b.cg (fun b h1 _ => hF b (by omega)), ⟨ch + 1, by omega, ?_, fun m hm => ?_⟩, by rw [hF 0 (by omega)]; exact d, f.cg (fun b h1 _ => hF b (by omega)), g.cg (fun b h1 _ => hF b (by omega))⟩
  · rw [h12, c.1]
    show nI ch + nI 1 = _
    rw [nI_add]
  · obtain ⟨⟨x, hx, ex⟩, -⟩ := c.2 m hm
    rw [hF 27 (by omega), ex]
    refine ⟨⟨x, by omega, rfl⟩, fun z => ?_⟩
    rw [nI_eq (by omega) (by omega)] at z
    omega
theorem Tc.c1 {T : QT} {x : Int32} (h : Tc I T) : Tc (q_u2 I 1 2 x) T := by
  refine ⟨(q_u2_j _ _ _ (by omega)).trans h.1, fun t ht => ?_⟩
  rw [nr_u2 (show 3 + 3 * t ≠ 1 by omega), nr_u2 (show 4 + 3 * t ≠ 1 by omega)]
  exact h.2 t ht
theorem m_adr {T : QT} {t : Nat} {a b c : Int32} {Q : Int32 → QI → Prop} (hT : Tm I T) (hwT : Tw T) (ht : t < T.1) (hm : T.2.2.1 t < 10) (h : ∀ I2, Tm I2 (adT T t a b c) → (∀ x, x ≠ 53 → x ≠ 54 → I2 x = I x) → Q (nI (T.2.2.1 t + 1)) I2) : (vp_in (nI t) 4 ∧ (∀ v4 : Int32, v4 = (((10 * (nI t)) + (I 53 (nI t).toNatClampNeg)) * 3) → (vp_in v4 120 ∧ (∀ I5 : QI, I5 = q_u2 I 54 (v4).toNatClampNeg a → (vp_in (v4 + 1) 120 ∧ (∀ I6 : QI, I6 = q_u2 I5 54 ((v4 + 1)).toNatClampNeg b → (vp_in (v4 + 2) 120 ∧ (∀ I7 : QI, I7 = q_u2 I6 54 ((v4 + 2)).toNatClampNeg c → (vp_in (nI t) 4 ∧ (vp_in (nI t) 4 ∧ (∀ I8 : QI, I8 = q_u2 I7 53 (nI t).toNatClampNeg ((I7 53 (nI t).toNatClampNeg) + 1) → (vp_in (nI t) 4 ∧ Q (I8 53 (nI t).toNatClampNeg) I8)))))))))))) := by
  obtain ⟨t4, w3, m10, w1⟩ := hwT.l ht
  simp (disch := omega) only [(hT.t t4).2, q_u2_s, ne_u2, nr_u2, fa_lit, nI_ltI, nI_leI, nI_eq, nI_add, pk_mul, nI_clamp, vp_in_nI, l_uk, l_n1, l_n1e, l_n1e2, l_n1l, l_n1l2, l_n1l3, not_true_eq_false, not_false_eq_true, true_implies, false_implies, true_and, and_true, and_self, forall_eq, bI_t, bI_f, Bool.false_eq_true, or_true, true_or, or_false, false_or, s1_ltx, if_true, if_false, Nat.add_zero, Nat.zero_add,  d_leF, d_leT, d_ltF, d_ltT, d_eqF, d_eqT]
  refine h _ ⟨?_, fun u hu => ⟨?_, ?_, fun r x hr hx => ?_⟩⟩ (fun x h1 h2 => ?_)
  · simp (disch := omega) only [adT, hT.1, q_u2_s, ne_u2, nr_u2, fa_lit, nI_ltI, nI_leI, nI_eq, nI_add, pk_mul, nI_clamp, vp_in_nI, l_uk, l_n1, l_n1e, l_n1e2, l_n1l, l_n1l2, l_n1l3, not_true_eq_false, not_false_eq_true, true_implies, false_implies, true_and, and_true, and_self, forall_eq, bI_t, bI_f, Bool.false_eq_true, or_true, true_or, or_false, false_or, s1_ltx, if_true, if_false, Nat.add_zero, Nat.zero_add,  d_leF, d_leT, d_ltF, d_ltT, d_eqF, d_eqT]
  · simp (disch := omega) only [adT, (hT.t hu).1, q_u2_s, ne_u2, nr_u2, fa_lit, nI_ltI, nI_leI, nI_eq, nI_add, pk_mul, nI_clamp, vp_in_nI, l_uk, l_n1, l_n1e, l_n1e2, l_n1l, l_n1l2, l_n1l3, not_true_eq_false, not_false_eq_true, true_implies, false_implies, true_and, and_true, and_self, forall_eq, bI_t, bI_f, Bool.false_eq_true, or_true, true_or, or_false, false_or, s1_ltx, if_true, if_false, Nat.add_zero, Nat.zero_add,  d_leF, d_leT, d_ltF, d_ltT, d_eqF, d_eqT]
  · by_cases e : u = t
    · subst e
      simp (disch := omega) only [adT, q_u2_s, ne_u2, nr_u2, fa_lit, nI_ltI, nI_leI, nI_eq, nI_add, pk_mul, nI_clamp, vp_in_nI, l_uk, l_n1, l_n1e, l_n1e2, l_n1l, l_n1l2, l_n1l3, not_true_eq_false, not_false_eq_true, true_implies, false_implies, true_and, and_true, and_self, forall_eq, bI_t, bI_f, Bool.false_eq_true, or_true, true_or, or_false, false_or, s1_ltx, if_true, if_false, Nat.add_zero, Nat.zero_add,  d_leF, d_leT, d_ltF, d_ltT, d_eqF, d_eqT]
    · simp (disch := omega) only [adT, (hT.t hu).2, q_u2_s, ne_u2, nr_u2, fa_lit, nI_ltI, nI_leI, nI_eq, nI_add, pk_mul, nI_clamp, vp_in_nI, l_uk, l_n1, l_n1e, l_n1e2, l_n1l, l_n1l2, l_n1l3, not_true_eq_false, not_false_eq_true, true_implies, false_implies, true_and, and_true, and_self, forall_eq, bI_t, bI_f, Bool.false_eq_true, or_true, true_or, or_false, false_or, s1_ltx, if_true, if_false, Nat.add_zero, Nat.zero_add,  d_leF, d_leT, d_ltF, d_ltT, d_eqF, d_eqT]
  · have h0 := (hT.2 u hu).2.2 r x hr hx
    by_cases e : u = t ∧ r = T.2.2.1 t
    · obtain ⟨rfl, rfl⟩ := e
      have e3 : (10 * u + T.2.2.1 u) * 3 = 30 * u + 3 * T.2.2.1 u := by omega
      rw [e3]
      rcases (show x = 0 ∨ x = 1 ∨ x = 2 by omega) with rfl | rfl | rfl
      · simp (disch := omega) only [adT, q_u2_s, ne_u2, nr_u2, fa_lit, nI_ltI, nI_leI, nI_eq, nI_add, pk_mul, nI_clamp, vp_in_nI, l_uk, l_n1, l_n1e, l_n1e2, l_n1l, l_n1l2, l_n1l3, not_true_eq_false, not_false_eq_true, true_implies, false_implies, true_and, and_true, and_self, forall_eq, bI_t, bI_f, Bool.false_eq_true, or_true, true_or, or_false, false_or, s1_ltx, if_true, if_false, Nat.add_zero, Nat.zero_add,  d_leF, d_leT, d_ltF, d_ltT, d_eqF, d_eqT]
      · simp (disch := omega) only [adT, q_u2_s, ne_u2, nr_u2, fa_lit, nI_ltI, nI_leI, nI_eq, nI_add, pk_mul, nI_clamp, vp_in_nI, l_uk, l_n1, l_n1e, l_n1e2, l_n1l, l_n1l2, l_n1l3, not_true_eq_false, not_false_eq_true, true_implies, false_implies, true_and, and_true, and_self, forall_eq, bI_t, bI_f, Bool.false_eq_true, or_true, true_or, or_false, false_or, s1_ltx, if_true, if_false, Nat.add_zero, Nat.zero_add,  d_leF, d_leT, d_ltF, d_ltT, d_eqF, d_eqT]
      · simp (disch := omega) only [adT, q_u2_s, ne_u2, nr_u2, fa_lit, nI_ltI, nI_leI, nI_eq, nI_add, pk_mul, nI_clamp, vp_in_nI, l_uk, l_n1, l_n1e, l_n1e2, l_n1l, l_n1l2, l_n1l3, not_true_eq_false, not_false_eq_true, true_implies, false_implies, true_and, and_true, and_self, forall_eq, bI_t, bI_f, Bool.false_eq_true, or_true, true_or, or_false, false_or, s1_ltx, if_true, if_false, Nat.add_zero, Nat.zero_add,  d_leF, d_leT, d_ltF, d_ltT, d_eqF, d_eqT]
    · have e2 : (adT T t a b c).2.2.2 u r x = T.2.2.2 u r x := if_neg e
      rw [e2]
      simp (disch := omega) only [q_u2_s, ne_u2, nr_u2, fa_lit, nI_ltI, nI_leI, nI_eq, nI_add, pk_mul, nI_clamp, vp_in_nI, l_uk, l_n1, l_n1e, l_n1e2, l_n1l, l_n1l2, l_n1l3, not_true_eq_false, not_false_eq_true, true_implies, false_implies, true_and, and_true, and_self, forall_eq, bI_t, bI_f, Bool.false_eq_true, or_true, true_or, or_false, false_or, s1_ltx, if_true, if_false, Nat.add_zero, Nat.zero_add,  d_leF, d_leT, d_ltF, d_ltT, d_eqF, d_eqT]
      exact h0
  · rw [nr_u2 h1, nr_u2 h2, nr_u2 h2, nr_u2 h2]
theorem m_okc {w c : Nat} {x : Int32} {A B : Prop} (hw : w ≤ 3) (hc : c < 3) (h1 : okc (decide (c < w)) x = true → A) (h2 : okc (decide (c < w)) x = false → B) : (nI w ≤ nI c → ((¬ x = 0 → B) ∧ (x = 0 → A))) ∧ (¬ nI w ≤ nI c → wX8_isValue x I (fun r => ((r = 0 → B) ∧ (¬ r = 0 → A)))) := by
  rw [nI_leI (by omega) (by omega)]
  by_cases e : c < w
  · rw [decide_eq_true e] at h1 h2
    refine ⟨fun z => absurd e (by omega), fun _ => m_isValue ?_⟩
    have e2 : okc true x = okv x := rfl
    rw [e2] at h1 h2
    cases e3 : okv x
    · exact ⟨fun _ => h2 e3, fun z => absurd rfl z⟩
    · exact ⟨fun z => absurd z (by decide), fun _ => h1 e3⟩
  · rw [decide_eq_false e] at h1 h2
    have e2 : okc false x = decide (x = 0) := rfl
    rw [e2] at h1 h2
    exact ⟨fun _ => ⟨fun z => h2 (decide_eq_false z), fun z => h1 (decide_eq_true z)⟩, fun z => absurd (by omega) z⟩
theorem m_add {T : QT} {t : Nat} {a b c : Int32} {Q : Int32 → QI → Prop} (hT : Tm I T) (hwT : Tw T) (ht : t < T.1) (hbad : alw T t a b c = false → Q 0 (q_u2 I 51 0 2)) (hful : alw T t a b c = true → T.2.2.1 t = 10 → Q 0 (q_u2 I 51 0 3)) (h : alw T t a b c = true → T.2.2.1 t < 10 → ∀ I2, Tm I2 (adT T t a b c) → (∀ x, x ≠ 53 → x ≠ 54 → I2 x = q_u2 I 51 0 0 x) → Q (nI (T.2.2.1 t + 1)) I2) : wX8_add (nI t) a b c I Q := by
  obtain ⟨t4, w3, m10, w1⟩ := hwT.l ht
  have hv : vp_in (nI t) 4 := by simp (disch := omega) only [fa_lit, nI_ltI, nI_leI, nI_eq, nI_add, pk_mul, nI_clamp, vp_in_nI, l_uk, l_n1, l_n1e, l_n1e2, l_n1l, l_n1l2, l_n1l3, not_true_eq_false, not_false_eq_true, true_implies, false_implies, true_and, and_true, and_self, forall_eq, bI_t, bI_f, Bool.false_eq_true, or_true, true_or, or_false, false_or, s1_ltx, if_true, if_false, Nat.add_zero, Nat.zero_add,  d_leF, d_leT, d_ltF, d_ltT, d_eqF, d_eqT]
  have ec : (nI t).toNatClampNeg = t := nI_clamp (by omega)
  unfold wX8_add
  refine m_isTable hT hwT ht ⟨fun z => absurd z (by decide), fun _ => m_isValue ?_⟩
  cases ea : okv a
  · exact ⟨fun _ => ⟨fun _ => m_goesWell_n (by decide) ⟨fun z => absurd rfl z, fun _ => hbad (by unfold alw; rw [ea]; rfl)⟩, fun z => absurd z (by decide)⟩, fun z => absurd rfl z⟩
  · refine ⟨fun z => absurd z (by decide), fun _ => ⟨hv, ?_⟩⟩
    have e52 : I 52 (nI t).toNatClampNeg = nI (T.2.1 t) := by rw [ec]; exact (hT.t t4).1
    have e53 : I 53 (nI t).toNatClampNeg = nI (T.2.2.1 t) := by rw [ec]; exact (hT.t t4).2
    rw [e52, e53]
    refine m_okc (c := 1) w3 (by omega) (fun eb => ⟨hv, m_okc (c := 2) w3 (by omega) (fun ecc => ?_) (fun ecc => ?_)⟩) (fun eb => ?_)
    · have eal : alw T t a b c = true := by unfold alw; rw [ea, eb, ecc]; rfl
      refine ⟨fun _ => ⟨hv, fun hne => ?_, fun heq => ?_⟩, fun z => absurd z (by decide)⟩
      · have hlt : T.2.2.1 t < 10 := by
          by_cases e : T.2.2.1 t = 10
          · exact absurd (by rw [e]; rfl) hne
          · omega
        exact m_goesWell_0 ⟨fun _ => m_adr (Q := Q) hT.w hwT ht hlt (h eal hlt), fun z => absurd z (by decide)⟩
      · have heq : nI (T.2.2.1 t) = nI 10 := heq
        rw [nI_eq (by omega) (by omega)] at heq
        exact m_goesWell_n (by decide) ⟨fun z => absurd rfl z, fun _ => hful eal heq⟩
    · exact ⟨fun _ => m_goesWell_n (by decide) ⟨fun z => absurd rfl z, fun _ => hbad (by unfold alw; rw [ea, eb, ecc]; rfl)⟩, fun z => absurd z (by decide)⟩
    · exact ⟨fun _ => m_goesWell_n (by decide) ⟨fun z => absurd rfl z, fun _ => hbad (by unfold alw; rw [ea, eb]; rfl)⟩, fun z => absurd z (by decide)⟩
theorem b_add {V1 V2 V3 V4 : Prop} {a1 a2 a3 a4 : Int32} (hV : V1 ∧ V2 ∧ V3 ∧ V4) (hK : Kw9 K i) (h : LR i Z S I k n) (hi : i < 512) : wL_add a1 a2 a3 a4 I J (fun r1 I2 J3 => V1 ∧ (V2 ∧ (V3 ∧ (V4 ∧ wX8_add a1 a2 a3 a4 I2 (fun r5 I4 => fin9 K post (nI (6 * i)) S I4 J3 (k + 1) (n + 6) r1 r5))))) := by
  have hL := h.nc hi
  obtain ⟨T, P, bu, Kk, Vv⟩ := Z
  obtain ⟨hwT, hwP, hd, hbu, hwK, hwV⟩ := h.2.1
  have hRc := h.2.2.1
  obtain ⟨c1, -⟩ := h.2.2.1
  obtain ⟨m1, -⟩ := h.2.2.2.1
  obtain ⟨hV1, hV2, hV3, hV4⟩ := hV
  replace hwT : Tw T := hwT
  replace c1 : Tc I T := c1
  replace m1 : Tm I T := m1
  have t4 := hwT.1
  unfold wL_add wX7_add
  rcases ixc a1 T.1 (by omega) with ⟨t, ht, rfl⟩ | hx
  · obtain ⟨t4, w3, m10, w1⟩ := hwT.l ht
    refine find_t c1 hwT ht (b_some (p_allows c1 hwT ht ?_))
    cases eal : alw T t a2 a3 a4
    · refine ⟨fun z => absurd rfl z, fun _ => Or.inr (Or.inl ⟨rfl, hV1, hV2, hV3, hV4, ?_⟩)⟩
      exact m_add m1 hwT ht (fun _ => m_no hK hL (by decide)) (fun z => by rw [eal] at z; cases z) (fun z => by rw [eal] at z; cases z)
    · refine ⟨fun _ => ?_, fun z => absurd z (by decide)⟩
      unfold wX5_isFull
      rw [(c1.t t4).2]
      have e6 : (nI (T.2.2.1 t) < (10 : Int32)) = (T.2.2.1 t < 10) := by
        show (_ < nI 10) = _
        rw [nI_ltI (by omega) (by omega)]
      rw [e6]
      refine ⟨fun hlt => ⟨fun _ => ?_, fun z => absurd rfl z⟩, fun hge => ⟨fun z => absurd z (by decide), fun _ => Or.inr (Or.inr ⟨rfl, hV1, hV2, hV3, hV4, ?_⟩)⟩⟩
      · refine p_append c1 hwT ht hlt (fun I5 hT5 hF5 h12 I6 e6 => ?_)
        unfold wX5_count
        have hT6 : Tc I6 (adT T t a2 a3 a4) := by rw [e6]; exact hT5.c1
        refine ⟨by simp (disch := omega) only [fa_lit, nI_ltI, nI_leI, nI_eq, nI_add, pk_mul, nI_clamp, vp_in_nI, l_uk, l_n1, l_n1e, l_n1e2, l_n1l, l_n1l2, l_n1l3, not_true_eq_false, not_false_eq_true, true_implies, false_implies, true_and, and_true, and_self, forall_eq, bI_t, bI_f, Bool.false_eq_true, or_true, true_or, or_false, false_or, s1_ltx, if_true, if_false, Nat.add_zero, Nat.zero_add,  d_leF, d_leT, d_ltF, d_ltT, d_eqF, d_eqT], fun J4 e4 => ⟨hV1, hV2, hV3, hV4, ?_⟩⟩
        have e7 : I6 (3 + 3 * t) 3 = nI (T.2.2.1 t + 1) := by
          rw [(hT6.t t4).2]
          show nI (if t = t then T.2.2.1 t + 1 else T.2.2.1 t) = _
          rw [if_pos rfl]
        have hF6 : ∀ b, 15 ≤ b ∨ b = 0 → I6 b = I b := fun b hb => by rw [e6, nr_u2 (by omega)]; exact hF5 b hb
        have hw2 : Rw (adT T t a2 a3 a4, P, bu, Kk, Vv) := ⟨adT_w hwT ht hlt _ _ _, Pw_tv hwP, hd, hbu, Kw_tv hwK, Vw_tv hwV⟩
        have hL2 := h.lc hi hw2 (hRc.chg hi hT6 hF6 (by rw [e6, ← h12]; exact q_u2_s _ _ _ _)) (fun b hb => hF6 b (by omega))
        obtain ⟨t2, p2, b2, k2, v2⟩ := hL2.2.2.2.2.1
        refine m_add t2 hwT ht (fun z => by rw [eal] at z; cases z) (fun _ z => absurd z (Nat.ne_of_lt hlt)) (fun _ _ I8 hT8 hF8 => ?_)
        have eb : ∀ b, b ≠ 51 → b ≠ 53 → b ≠ 54 → I8 b = I6 b := fun b h1 h2 h3 => by rw [hF8 b h2 h3, nr_u2 h1]
        have ej : ∀ j, j ≠ 0 → I8 51 j = I6 51 j := fun j h1 => by rw [hF8 51 (by omega) (by omega), q_u2_j _ _ _ h1]
        refine m_fin9 hi (by rw [hF8 51 (by omega) (by omega)]; exact q_u2_s _ _ _ _) (fun _ => ?_) (hK (adT T t a2 a3 a4, P, bu, Kk, Vv) S I8 J4 _ _ (hL2.lr (fun b hb => eb b (by omega) (by omega) (by omega)) ⟨hT8, p2.cg (ej 5 (by omega)) (fun b _ _ => eb b (by omega) (by omega) (by omega)), (ej 13 (by omega)).trans b2, k2.cg (ej 14 (by omega)) (eb 62 (by omega) (by omega) (by omega)), v2.cg (ej 16 (by omega)) (eb 63 (by omega) (by omega) (by omega))⟩ (ej 24 (by omega)) (ej 27 (by omega)) (fun b hb => eb b (by omega) (by omega) (by omega))))
        rw [e4, e7]
        exact q_u2_s _ _ _ _
      · exact m_add m1 hwT ht (fun z => by rw [eal] at z; cases z) (fun _ _ => m_no hK hL (by decide)) (fun _ z => absurd z hge)
  · refine find_f c1 hwT hx (b_none (Or.inl ⟨rfl, hV1, hV2, hV3, hV4, ?_⟩))
    unfold wX8_add
    exact m_isTable_f m1 hwT hx ⟨fun _ => ⟨fun z => absurd rfl z, fun _ => gwF2 hK hL (by decide)⟩, fun z => absurd rfl z⟩
theorem L_1 {X : QX} (hl : X.2.1.2.1 ≤ 3072) (hi6 : 6 * i + 6 ≤ X.2.1.2.1) (hK : Kw9 K i) (h : LR i Z S I k n) : wL_c1 X K post (nI (6 * i)) S I J k n := by
  have hv : ∀ j : Nat, j < 6 → vp_in (nI (6 * i) + nI j) X.2.1.2.1 := fun j hj => by simp (disch := omega) only [fa_lit, nI_ltI, nI_leI, nI_eq, nI_add, pk_mul, nI_clamp, vp_in_nI, l_uk, l_n1, l_n1e, l_n1e2, l_n1l, l_n1l2, l_n1l3, not_true_eq_false, not_false_eq_true, true_implies, false_implies, true_and, and_true, and_self, forall_eq, bI_t, bI_f, Bool.false_eq_true, or_true, true_or, or_false, false_or, s1_ltx, if_true, if_false, Nat.add_zero, Nat.zero_add,  d_leF, d_leT, d_ltF, d_ltT, d_eqF, d_eqT]
  have hkn := h.kn
  exact ⟨hv 1 (by omega), hv 2 (by omega), hv 3 (by omega), hv 4 (by omega), hkn.1, hkn.2, b_add ⟨hv 1 (by omega), hv 2 (by omega), hv 3 (by omega), hv 4 (by omega)⟩ hK h (by omega)⟩
end LC
