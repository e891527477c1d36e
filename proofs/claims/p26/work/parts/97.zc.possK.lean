/-! pure: what counts as up to date still does -/
theorem p_isPossibleK {I : QI} {T : QT} {P : List Nd} {ch : Nat} (hT : Tc I T) (hwT : Tw T) (hP : Pc I P) (hw : Pw T P) (hC : Ca I T P ch) (hch : ch < 2 ^ 30) {n bu : Nat} (hn : n < P.length) (hbu : bu ≤ 100000) {post : Int32 → QI → Prop} (h : ∀ I2, (∀ b, b < 24 ∨ 30 ≤ b → I2 b = I b) → Ca I2 T P ch → OKc I2 T P n → I2 27 n = nI ch → (∀ m, m < 24 → I 27 m = nI ch → I2 27 m = nI ch) → post (bI (psb T P n bu)) I2) : wX0_isPossible (nI n) (nI bu) I post := by
  have h24 := hw.1
  unfold wX0_isPossible
  refine p_has hP hw hn ⟨fun _ => ?_, fun z => absurd z (by decide)⟩
  refine p_markWanted hP hw hn (fun I1 W hF1 hW hi => ?_)
  obtain ⟨w1, w2, w3, w4⟩ := hi
  have c12 : I 1 2 = nI ch := hC.1
  unfold Wq at w3 w4
  rw [c12] at w2 w3 w4
  have hC1 : ∀ m, m < 24 → I1 27 m = I 27 m := fun m _ => by rw [hF1 27 (by omega)]
  refine lp (fun f i (I2 : QI) => wX0_isPossible_20 (nI n) (nI bu) _ post f (nI i) I2) (fun i I2 => (∀ b, b ≠ 24 → b ≠ 25 → b ≠ 26 → b ≠ 27 → b ≠ 29 → I2 b = I1 b) ∧ (∀ m, m < 24 → ((m < i ∧ W m = true) → I2 27 m = nI ch) ∧ (¬ (m < i ∧ W m = true) → I2 27 m = I 27 m)) ∧ ∀ m, m < P.length → (I 27 m = nI ch ∨ (m < i ∧ W m = true)) → OKc I2 T P m) (n + 1) ?_ ?_ 0 I1 (Nat.zero_le _) ⟨fun _ _ _ _ _ _ => rfl, fun m hm => ⟨fun z => absurd z.1 (Nat.not_lt_zero m), fun _ => hC1 m hm⟩, fun m hm z => ?_⟩
  · rintro f I2 ⟨hF, h27, hO⟩
    have on : OKc I2 T P n := hO n hn (w4.elim (fun z => Or.inr ⟨Nat.lt_succ_self n, z⟩) (fun z => Or.inl z.2))
    have n27 : I2 27 n = nI ch := by
      by_cases e : n < n + 1 ∧ W n = true
      · exact (h27 n (by omega)).1 e
      · rw [(h27 n (by omega)).2 e]
        rcases w4 with z | z
        · exact absurd ⟨Nat.lt_succ_self n, z⟩ e
        · exact z.2
    have hmono : ∀ m, m < 24 → I 27 m = nI ch → I2 27 m = nI ch := fun m hm z => by
      by_cases e : m < n + 1 ∧ W m = true
      · exact (h27 m hm).1 e
      · rw [(h27 m hm).2 e]; exact z
    have hfin : post (bI (psb T P n bu)) I2 := by
      refine h I2 (fun b hb => ?_) ⟨?_, fun m hm => ⟨?_, fun e => ?_⟩⟩ on n27 hmono
      · rw [hF b (by omega) (by omega) (by omega) (by omega) (by omega), hF1 b (by omega)]
      · rw [hF 1 (by omega) (by omega) (by omega) (by omega) (by omega), hF1 1 (by omega)]
        exact c12
      · by_cases e : m < n + 1 ∧ W m = true
        · exact ⟨ch, Nat.le_refl _, (h27 m hm).1 e⟩
        · rw [(h27 m hm).2 e]
          exact (hC.2 m hm).1
      · by_cases e2 : m < n + 1 ∧ W m = true
        · exact ⟨by omega, hO m (by omega) (Or.inr e2)⟩
        · rw [(h27 m hm).2 e2] at e
          have := ((hC.2 m hm).2 e).1
          exact ⟨this, hO m this (Or.inl e)⟩
    show wX0_isPossible_20 _ _ _ _ _ _ _
    rw [wX0_isPossible_20]
    have e5 : nI n < nI (n + 1) := (nI_ltI (by omega) (by omega)).mpr (by omega)
    refine ⟨fun _ => p_countOf (by omega) ?_, fun z => absurd e5 z⟩
    unfold psb at hfin
    cases eV : EV T P n with
    | none =>
      rw [eV] at hfin
      rw [on.n eV]
      exact ⟨fun _ => hfin, fun z => absurd rfl z⟩
    | some L =>
      rw [eV] at hfin
      obtain ⟨x, y⟩ := on.s eV
      have x2 := x.2.1
      rw [x.1]
      simp (disch := omega) only [fa_lit, nI_ltI, nI_leI, nI_eq, nI_add, pk_mul, nI_clamp, vp_in_nI, l_uk, l_n1, l_n1e, l_n1e2, l_n1l, l_n1l2, l_n1l3, not_true_eq_false, not_false_eq_true, true_implies, false_implies, true_and, and_true, and_self, forall_eq, bI_t, bI_f, Bool.false_eq_true, or_true, true_or, or_false, false_or, s1_ltx, if_true, if_false, Nat.add_zero, Nat.zero_add,  d_leF, d_leT, d_ltF, d_ltT, d_eqF, d_eqT]
      refine p_stepsOf (by omega) ?_
      rw [y]
      simp (disch := omega) only [fa_lit, nI_ltI, nI_leI, nI_eq, nI_add, pk_mul, nI_clamp, vp_in_nI, l_uk, l_n1, l_n1e, l_n1e2, l_n1l, l_n1l2, l_n1l3, not_true_eq_false, not_false_eq_true, true_implies, false_implies, true_and, and_true, and_self, forall_eq, bI_t, bI_f, Bool.false_eq_true, or_true, true_or, or_false, false_or, s1_ltx, if_true, if_false, Nat.add_zero, Nat.zero_add,  d_leF, d_leT, d_ltF, d_ltT, d_eqF, d_eqT]
      by_cases e6 : ST T P n ≤ bu
      · rw [decide_eq_true e6] at hfin
        exact ⟨fun z => by omega, fun _ => hfin⟩
      · rw [decide_eq_false e6] at hfin
        exact ⟨fun _ => hfin, fun z => by omega⟩
  · rintro f i I2 hi2 ⟨hF, h27, hO⟩ hk
    have hP2 : Pc I2 P := Pc_fr hP (fun b h1 h2 => by rw [hF b (by omega) (by omega) (by omega) (by omega) (by omega), hF1 b (by omega)])
    have hT2 : Tc I2 T := Tc_fr hT (fun b h1 => by rw [hF b (by omega) (by omega) (by omega) (by omega) (by omega), hF1 b (by omega)])
    have e28 : I2 28 i = bI (W i) := by
      rw [hF 28 (by omega) (by omega) (by omega) (by omega) (by omega)]
      exact hW i (by omega)
    have e12 : I2 1 2 = nI ch := by
      rw [hF 1 (by omega) (by omega) (by omega) (by omega) (by omega), hF1 1 (by omega)]
      exact c12
    show wX0_isPossible_20 _ _ _ _ _ _ _
    rw [wX0_isPossible_20]
    cases e : W i
    · rw [e] at e28
      simp (disch := omega) only [e28, fa_lit, nI_ltI, nI_leI, nI_eq, nI_add, pk_mul, nI_clamp, vp_in_nI, l_uk, l_n1, l_n1e, l_n1e2, l_n1l, l_n1l2, l_n1l3, not_true_eq_false, not_false_eq_true, true_implies, false_implies, true_and, and_true, and_self, forall_eq, bI_t, bI_f, Bool.false_eq_true, or_true, true_or, or_false, false_or, s1_ltx, if_true, if_false, Nat.add_zero, Nat.zero_add,  d_leF, d_leT, d_ltF, d_ltT, d_eqF, d_eqT]
      refine hk I2 ⟨hF, fun m hm => ⟨fun z => (h27 m hm).1 ⟨?_, z.2⟩, fun z => (h27 m hm).2 (fun z2 => z ⟨by omega, z2.2⟩)⟩, fun m hm z => hO m hm (z.elim Or.inl (fun z => Or.inr ⟨?_, z.2⟩))⟩
      · by_cases e2 : m = i
        · subst e2
          rw [e] at z
          cases z.2
        · omega
      · by_cases e2 : m = i
        · subst e2
          rw [e] at z
          cases z.2
        · omega
    · rw [e] at e28
      have hab := (hw.2 i (by omega)).ab
      unfold wX4_changes
      simp (disch := omega) only [e28, e12, q_u2_s, ne_u2, nr_u2, fa_lit, nI_ltI, nI_leI, nI_eq, nI_add, pk_mul, nI_clamp, vp_in_nI, l_uk, l_n1, l_n1e, l_n1e2, l_n1l, l_n1l2, l_n1l3, not_true_eq_false, not_false_eq_true, true_implies, false_implies, true_and, and_true, and_self, forall_eq, bI_t, bI_f, Bool.false_eq_true, or_true, true_or, or_false, false_or, s1_ltx, if_true, if_false, Nat.add_zero, Nat.zero_add,  d_leF, d_leT, d_ltF, d_ltT, d_eqF, d_eqT]
      have hO6 : ∀ m, m < P.length → m ≠ i → (I 27 m = nI ch ∨ (m < i ∧ W m = true)) → OKc (q_u2 (q_u2 I2 27 i (nI ch)) 25 i (nI 0)) T P m := by
        intro m hm hmi z
        refine OKc_cg (hO m hm z) (hw.2 m hm).1.2.2.2.2.2.2 (fun j _ _ => ?_) ?_ ?_
        · rw [nr_u2 (by omega), nr_u2 (by omega)]
        · rw [q_u2_j _ _ _ hmi, nr_u2 (by omega)]
        · rw [nr_u2 (by omega), nr_u2 (by omega)]
      refine p_poss1 (Tc_fr hT2 (fun b hb => by rw [nr_u2 (by omega), nr_u2 (by omega)])) hwT (Pc_fr hP2 (fun b h1 h2 => by rw [nr_u2 (by omega), nr_u2 (by omega)])) hw (by omega) (fun es => ?_) (fun es => ?_) (q_u2_s _ _ _ _) (fun I3 g1 g2 g3 g4 => ?_)
      · have ha := hab.1 es
        refine hO6 _ (by omega) (by omega) ?_
        rcases (w3 i (Nat.zero_le _) (by omega) e).1 es with z | z
        · exact Or.inr ⟨ha, z⟩
        · exact Or.inl z.2
      · have hb := hab.2 es
        refine hO6 _ (by omega) (by omega) ?_
        rcases (w3 i (Nat.zero_le _) (by omega) e).2 es with z | z
        · exact Or.inr ⟨hb, z⟩
        · exact Or.inl z.2
      · have i27 : I3 27 = (q_u2 (q_u2 I2 27 i (nI ch)) 25 i (nI 0)) 27 := g1 27 (by omega) (by omega) (by omega) (by omega)
        refine hk I3 ⟨fun b h1 h2 h3 h4 h5 => ?_, fun m hm => ⟨fun z => ?_, fun z => ?_⟩, fun m hm z => ?_⟩
        · rw [g1 b h1 h2 h3 h5, nr_u2 h2, nr_u2 h4]
          exact hF b h1 h2 h3 h4 h5
        · rw [i27, nr_u2 (by omega)]
          by_cases e2 : m = i
          · subst e2
            exact q_u2_s _ _ _ _
          · rw [q_u2_j _ _ _ e2]
            exact (h27 m hm).1 ⟨by omega, z.2⟩
        · have e2 : m ≠ i := fun e2 => z ⟨by omega, by rw [e2]; exact e⟩
          rw [i27, nr_u2 (by omega), q_u2_j _ _ _ e2]
          exact (h27 m hm).2 (fun z2 => z ⟨by omega, z2.2⟩)
        · by_cases e2 : m = i
          · subst e2
            exact g4
          · refine OKc_cg (hO6 m hm e2 (z.elim Or.inl (fun z => Or.inr ⟨by omega, z.2⟩))) (hw.2 m hm).1.2.2.2.2.2.2 (fun j h1 h2 => g2 j ?_) (g3 m e2).1 (g3 m e2).2
            rcases Nat.lt_or_gt_of_ne e2 with h3 | h3
            · rw [Nat.succ_mul] at h2
              exact Or.inl (Nat.lt_of_lt_of_le h2 (reg_lt h3))
            · exact Or.inr (Nat.le_trans (reg_lt h3) h1)
  · rcases z with z | z
    · refine OKc_cg ((hC.2 m (by omega)).2 z).2 (hw.2 m hm).1.2.2.2.2.2.2 (fun j _ _ => ?_) ?_ ?_
      · rw [hF1 24 (by omega)]
      · rw [hF1 25 (by omega)]
      · rw [hF1 26 (by omega)]
    · exact absurd z.1 (Nat.not_lt_zero m)
