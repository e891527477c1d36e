/-! pure: the reference's ways -/
theorem lpm {σ : Type} (W : Nat → σ → Prop) (Inv : σ → Prop) (μ : σ → Nat) (hs : ∀ f s, Inv s → (∀ s', Inv s' → μ s' < μ s → W f s') → W (f + 1) s) (s : σ) (h : Inv s) : ∃ f, W f s := by
  have key : ∀ m f s, Inv s → μ s ≤ m → m < f → W f s := by
    intro m
    induction m with
    | zero =>
      intro f s hi h1 h2
      cases f with
      | zero => omega
      | succ f => exact hs f s hi (fun s' _ h3 => by omega)
    | succ m ih =>
      intro f s hi h1 h2
      cases f with
      | zero => omega
      | succ f => exact hs f s hi (fun s' hi' h3 => ih f s' hi' (by omega) (by omega))
  exact ⟨μ s + 1, key (μ s) (μ s + 1) s h (Nat.le_refl _) (Nat.lt_succ_self _)⟩
theorem m_isKnown {I : QI} {T : QT} (hT : Tm I T) {t r : Nat} (ht : t < 4) (hr : r < 10) {post : Int32 → Prop} (h : post (bI (stp T t r))) : wX8_isKnown (nI t) (nI r) I post := by
  unfold stp at h
  unfold wX8_isKnown
  refine m_at (c := 0) hT ht hr (by omega) ?_
  refine ⟨fun e => ?_, fun e => m_at (c := 1) hT ht hr (by omega) ⟨fun e2 => ?_, fun e2 => ?_⟩⟩
  · rw [decide_eq_false (fun z => z.1 e)] at h
    exact h
  · rw [decide_eq_false (fun z => z.2 e2)] at h
    exact h
  · rw [decide_eq_true ⟨e, e2⟩] at h
    exact h
theorem Tm_78 {I I2 : QI} {T : QT} (hT : Tm I T) (h : ∀ b, b ≠ 78 → I2 b = I b) : Tm I2 T := Tm_fr hT (fun b h1 h2 => h b (by omega))
def hitk (T : QT) (t : Nat) (A : Nat → Bool) (i j : Nat) : Bool := stp T t i && !decide (∀ k, k < j → ¬ (A k = true ∧ T.2.2.2 t k 1 = T.2.2.2 t i 0))
theorem hitk_s (T : QT) (t : Nat) (A : Nat → Bool) (i j : Nat) : hitk T t A i (j + 1) = (hitk T t A i j || (A j && stp T t i && decide (T.2.2.2 t j 1 = T.2.2.2 t i 0))) := by
  unfold hitk
  by_cases e : A j = true ∧ T.2.2.2 t j 1 = T.2.2.2 t i 0
  · rw [decide_eq_false (fun z => z j (by omega) e), e.1, decide_eq_true e.2]
    cases stp T t i <;> simp
  · have e2 : decide (∀ k, k < j + 1 → ¬ (A k = true ∧ T.2.2.2 t k 1 = T.2.2.2 t i 0)) = decide (∀ k, k < j → ¬ (A k = true ∧ T.2.2.2 t k 1 = T.2.2.2 t i 0)) := by
      refine decide_eq_decide.mpr ⟨fun z k hk => z k (by omega), fun z k hk => ?_⟩
      by_cases e3 : k = j
      · subst e3; exact e
      · exact z k (by omega)
    rw [e2]
    have e4 : (A j && stp T t i && decide (T.2.2.2 t j 1 = T.2.2.2 t i 0)) = false := by
      cases h1 : A j
      · rfl
      · rw [decide_eq_false (fun z => e ⟨h1, z⟩), Bool.and_false]
    rw [e4, Bool.or_false]
theorem m_reached_68 {I : QI} {T : QT} (hT : Tm I T) (hw : Tw T) {t i : Nat} (ht : t < 4) (hi : i < T.2.2.1 t) {A : Nat → Bool} (hA : ∀ k, k < T.2.2.1 t → I 78 k = bI (A k)) {b : Bool} {x3 y : Int32} {K : Int32 → Int32 → Int32 → QI → Prop} {post : Int32 → QI → Prop} (h : K x3 (nI i) (bI (b || hitk T t A i (T.2.2.1 t))) I) : ∃ f, wX8_reached_68 (nI t) y K post f x3 (nI i) (bI b) 0 I := by
  have m10 := (hw.2 t ht).2.1
  refine lp (fun f j (c : Bool) => wX8_reached_68 (nI t) y K post f x3 (nI i) (bI c) (nI j) I) (fun j c => c = (b || hitk T t A i j)) (T.2.2.1 t) ?_ ?_ 0 b (Nat.zero_le _) ?_
  · intro f c hc
    rw [← hc] at h
    show wX8_reached_68 _ _ _ _ _ _ _ _ _ _
    rw [wX8_reached_68]
    simp (disch := omega) only [(hT.t ht).2, fa_lit, nI_ltI, nI_leI, nI_eq, nI_add, pk_mul, nI_clamp, vp_in_nI, l_uk, l_n1, l_n1e, l_n1e2, l_n1l, l_n1l2, l_n1l3, not_true_eq_false, not_false_eq_true, true_implies, false_implies, true_and, and_true, and_self, forall_eq, bI_t, bI_f, Bool.false_eq_true, or_true, true_or, or_false, false_or, s1_ltx, if_true, if_false, Nat.add_zero, Nat.zero_add,  d_leF, d_leT, d_ltF, d_ltT, d_eqF, d_eqT]
    exact h
  · intro f j c hj hc hk
    have nx : wX8_reached_68 (nI t) y K post f x3 (nI i) (bI (c || (A j && stp T t i && decide (T.2.2.2 t j 1 = T.2.2.2 t i 0)))) (nI (j + 1)) I := hk _ (by rw [hitk_s, hc, Bool.or_assoc])
    have hAj := hA j hj
    show wX8_reached_68 _ _ _ _ _ _ _ _ _ _
    rw [wX8_reached_68]
    cases c
    · cases e : A j
      · rw [e] at hAj nx
        simp (disch := omega) only [(hT.t ht).2, hAj, fa_lit, nI_ltI, nI_leI, nI_eq, nI_add, pk_mul, nI_clamp, vp_in_nI, l_uk, l_n1, l_n1e, l_n1e2, l_n1l, l_n1l2, l_n1l3, not_true_eq_false, not_false_eq_true, true_implies, false_implies, true_and, and_true, and_self, forall_eq, bI_t, bI_f, Bool.false_eq_true, or_true, true_or, or_false, false_or, s1_ltx, if_true, if_false, Nat.add_zero, Nat.zero_add,  d_leF, d_leT, d_ltF, d_ltT, d_eqF, d_eqT]
        exact nx
      · rw [e] at hAj nx
        simp (disch := omega) only [(hT.t ht).2, hAj, fa_lit, nI_ltI, nI_leI, nI_eq, nI_add, pk_mul, nI_clamp, vp_in_nI, l_uk, l_n1, l_n1e, l_n1e2, l_n1l, l_n1l2, l_n1l3, not_true_eq_false, not_false_eq_true, true_implies, false_implies, true_and, and_true, and_self, forall_eq, bI_t, bI_f, Bool.false_eq_true, or_true, true_or, or_false, false_or, s1_ltx, if_true, if_false, Nat.add_zero, Nat.zero_add,  d_leF, d_leT, d_ltF, d_ltT, d_eqF, d_eqT]
        refine m_isKnown hT ht (by omega) ?_
        cases e2 : stp T t i
        · rw [e2] at nx
          simp (disch := omega) only [fa_lit, nI_ltI, nI_leI, nI_eq, nI_add, pk_mul, nI_clamp, vp_in_nI, l_uk, l_n1, l_n1e, l_n1e2, l_n1l, l_n1l2, l_n1l3, not_true_eq_false, not_false_eq_true, true_implies, false_implies, true_and, and_true, and_self, forall_eq, bI_t, bI_f, Bool.false_eq_true, or_true, true_or, or_false, false_or, s1_ltx, if_true, if_false, Nat.add_zero, Nat.zero_add,  d_leF, d_leT, d_ltF, d_ltT, d_eqF, d_eqT]
          exact nx
        · rw [e2] at nx
          simp (disch := omega) only [fa_lit, nI_ltI, nI_leI, nI_eq, nI_add, pk_mul, nI_clamp, vp_in_nI, l_uk, l_n1, l_n1e, l_n1e2, l_n1l, l_n1l2, l_n1l3, not_true_eq_false, not_false_eq_true, true_implies, false_implies, true_and, and_true, and_self, forall_eq, bI_t, bI_f, Bool.false_eq_true, or_true, true_or, or_false, false_or, s1_ltx, if_true, if_false, Nat.add_zero, Nat.zero_add,  d_leF, d_leT, d_ltF, d_ltT, d_eqF, d_eqT]
          refine m_at (c := 1) hT ht (by omega) (by omega) (m_at (c := 0) hT ht (by omega) (by omega) ?_)
          refine ⟨fun e3 => ?_, fun e3 => ?_⟩
          · rw [decide_eq_false e3] at nx
            exact nx
          · rw [decide_eq_true e3] at nx
            exact nx
    · simp (disch := omega) only [(hT.t ht).2, fa_lit, nI_ltI, nI_leI, nI_eq, nI_add, pk_mul, nI_clamp, vp_in_nI, l_uk, l_n1, l_n1e, l_n1e2, l_n1l, l_n1l2, l_n1l3, not_true_eq_false, not_false_eq_true, true_implies, false_implies, true_and, and_true, and_self, forall_eq, bI_t, bI_f, Bool.false_eq_true, or_true, true_or, or_false, false_or, s1_ltx, if_true, if_false, Nat.add_zero, Nat.zero_add,  d_leF, d_leT, d_ltF, d_ltT, d_eqF, d_eqT]
      exact nx
  · have : hitk T t A i 0 = false := by
      unfold hitk
      rw [decide_eq_true (show ∀ k, k < 0 → ¬ (A k = true ∧ T.2.2.2 t k 1 = T.2.2.2 t i 0) from fun k hk => absurd hk (Nat.not_lt_zero k))]
      cases stp T t i <;> rfl
    rw [this, Bool.or_false]
theorem hitk_t {T : QT} {t : Nat} {A : Nat → Bool} {i j : Nat} (h : hitk T t A i j = true) : stp T t i = true ∧ ∃ k, k < j ∧ A k = true ∧ T.2.2.2 t k 1 = T.2.2.2 t i 0 := by
  unfold hitk at h
  rw [Bool.and_eq_true] at h
  refine ⟨h.1, ?_⟩
  apply Classical.byContradiction
  intro hc
  have h2 := h.2
  rw [decide_eq_true (show ∀ k, k < j → ¬ (A k = true ∧ T.2.2.2 t k 1 = T.2.2.2 t i 0) from fun k hk z => hc ⟨k, hk, z⟩)] at h2
  cases h2
theorem hitk_f {T : QT} {t : Nat} {A : Nat → Bool} {i j : Nat} (h : hitk T t A i j = false) : stp T t i = true → ∀ k, k < j → A k = true → ¬ T.2.2.2 t k 1 = T.2.2.2 t i 0 := by
  intro hs k hk hA hv
  unfold hitk at h
  rw [hs, decide_eq_false (fun z => z k hk ⟨hA, hv⟩)] at h
  cases h
/-- a pass: what is marked is reached; if nothing was new, it is closed so far -/
def rPs (T : QT) (t : Nat) (a : Int32) (A0 A : Nat → Bool) (g : Bool) (i : Nat) : Prop := rS T t a A ∧ (∀ k, k < T.2.2.1 t → A0 k = true → A k = true) ∧ (g = false → (∀ k, k < T.2.2.1 t → A k = A0 k) ∧ ∀ q, q < i → (stp T t q = true → T.2.2.2 t q 0 = a → A0 q = true) ∧ rCl T t A0 q) ∧ (g = true → ct A0 (T.2.2.1 t) + 1 ≤ ct A (T.2.2.1 t))
theorem rPs_s {T : QT} {t : Nat} {a : Int32} {A0 A : Nat → Bool} {g : Bool} {i : Nat} (hi : i < T.2.2.1 t) (h : rPs T t a A0 A g i) {ib : Bool} (h2 : ib = (decide (stp T t i = true ∧ T.2.2.2 t i 0 = a) || hitk T t A i (T.2.2.1 t))) : rPs T t a A0 (fun k => if k = i then (A i || ib) else A k) (g || (ib && !A i)) (i + 1) := by
  obtain ⟨p1, p2, p3, p4⟩ := h
  have hl : ib = true → lf T t a i := by
    intro e
    rw [h2] at e
    rcases (Bool.or_eq_true _ _).mp e with e | e
    · have e3 := of_decide_eq_true e
      exact fun X hb _ => hb i hi e3.1 e3.2
    · obtain ⟨s1, k, k1, k2, k3⟩ := hitk_t e
      exact rS_step p1 k1 hi k2 s1 k3
  have eA : ∀ k, (fun k => if k = i then (A i || ib) else A k) k = true → A k = true ∨ (k = i ∧ ib = true) := by
    intro k z
    have z2 : (if k = i then (A i || ib) else A k) = true := z
    by_cases e : k = i
    · rw [if_pos e] at z2
      rcases (Bool.or_eq_true _ _).mp z2 with z3 | z3
      · exact Or.inl (by rw [e]; exact z3)
      · exact Or.inr ⟨e, z3⟩
    · rw [if_neg e] at z2
      exact Or.inl z2
  have eB : ∀ k, A k = true → (fun k => if k = i then (A i || ib) else A k) k = true := by
    intro k z
    show (if k = i then (A i || ib) else A k) = true
    by_cases e : k = i
    · subst e
      rw [if_pos rfl, z]
      rfl
    · rw [if_neg e]
      exact z
  refine ⟨fun r hr z => ?_, fun k hk z => eB k (p2 k hk z), fun z => ?_, fun z => ?_⟩
  · rcases eA r z with z | z
    · exact p1 r hr z
    · rw [z.1]; exact hl z.2
  · have z1 : g = false := by cases g; rfl; cases z
    have z2 : (ib && !A i) = false := by rw [z1] at z; exact z
    obtain ⟨q1, q2⟩ := p3 z1
    have q3 : (A i || ib) = A i := by
      cases e : A i
      · rw [e] at z2
        cases ib
        · rfl
        · cases z2
      · rfl
    refine ⟨fun k hk => ?_, fun q hq => ?_⟩
    · show (if k = i then (A i || ib) else A k) = A0 k
      by_cases e : k = i
      · rw [if_pos e, q3, e]
        exact q1 i hi
      · rw [if_neg e]
        exact q1 k hk
    · by_cases e : q = i
      · subst e
        have a0 := q1 q hi
        cases eAi : A q
        · have ib0 : ib = false := by
            rw [eAi] at z2
            cases ib
            · rfl
            · cases z2
          rw [ib0] at h2
          have h3 := Bool.or_eq_false_iff.mp h2.symm
          have h4 := of_decide_eq_false h3.1
          have h5 := hitk_f h3.2
          refine ⟨fun s1 s2 => absurd ⟨s1, s2⟩ h4, fun k hk hk2 s1 s2 => absurd s2 (h5 s1 k hk ?_)⟩
          rw [q1 k hk]
          exact hk2
        · rw [eAi] at a0
          exact ⟨fun _ _ => a0.symm, fun _ _ _ _ _ => a0.symm⟩
      · exact q2 q (by omega)
  · cases eg : g
    · rw [eg] at z
      have z2 : (ib && !A i) = true := z
      have z3 := (Bool.and_eq_true _ _).mp z2
      have z4 : A i = false := by cases e : A i; rfl; rw [e] at z3; cases z3.2
      have e5 : ct (fun k => if k = i then (A i || ib) else A k) (T.2.2.1 t) = ct A (T.2.2.1 t) + 1 := by
        rw [z4, z3.1]
        exact ct_set hi z4
      rw [e5, ct_cong (p := A) (q := A0) (fun k hk => (p3 eg).1 k hk)]
      exact Nat.le_refl _
    · have e5 := ct_mono (p := A) (q := fun k => if k = i then (A i || ib) else A k) (n := T.2.2.1 t) (fun k _ => eB k)
      have := p4 eg
      omega
theorem m_reached_19 {I : QI} {T : QT} (hT : Tm I T) (hw : Tw T) {t fr : Nat} (ht : t < 4) (hfr : fr < T.2.2.1 t) {A0 : Nat → Bool} (hA : ∀ k, k < T.2.2.1 t → I 78 k = bI (A0 k)) (hs : rS T t (T.2.2.2 t fr 0) A0) {K : Int32 → QI → Prop} {post : Int32 → QI → Prop} (h : ∀ (I2 : QI) (A : Nat → Bool) (g : Bool), (∀ b, b ≠ 78 → I2 b = I b) → (∀ k, k < T.2.2.1 t → I2 78 k = bI (A k)) → rPs T t (T.2.2.2 t fr 0) A0 A g (T.2.2.1 t) → K (bI g) I2) : ∃ f, wX8_reached_19 (nI t) (nI fr) K post f 0 0 I := by
  have m10 := (hw.2 t ht).2.1
  refine lp (fun f i (s : Bool × QI) => wX8_reached_19 (nI t) (nI fr) K post f (bI s.1) (nI i) s.2) (fun i s => (∀ b, b ≠ 78 → s.2 b = I b) ∧ ∃ A : Nat → Bool, (∀ k, k < T.2.2.1 t → s.2 78 k = bI (A k)) ∧ rPs T t (T.2.2.2 t fr 0) A0 A s.1 i) (T.2.2.1 t) ?_ ?_ 0 (false, I) (Nat.zero_le _) ⟨fun _ _ => rfl, A0, hA, hs, fun _ _ z => z, fun _ => ⟨fun _ _ => rfl, fun q hq => absurd hq (Nat.not_lt_zero q)⟩, fun z => (nomatch z)⟩
  · rintro f ⟨g, I2⟩ ⟨hF, A, hA2, hp⟩
    replace hF : ∀ b, b ≠ 78 → I2 b = I b := hF
    show wX8_reached_19 _ _ _ _ _ _ _ _
    rw [wX8_reached_19]
    simp (disch := omega) only [((Tm_78 hT hF).t ht).2, fa_lit, nI_ltI, nI_leI, nI_eq, nI_add, pk_mul, nI_clamp, vp_in_nI, l_uk, l_n1, l_n1e, l_n1e2, l_n1l, l_n1l2, l_n1l3, not_true_eq_false, not_false_eq_true, true_implies, false_implies, true_and, and_true, and_self, forall_eq, bI_t, bI_f, Bool.false_eq_true, or_true, true_or, or_false, false_or, s1_ltx, if_true, if_false, Nat.add_zero, Nat.zero_add,  d_leF, d_leT, d_ltF, d_ltT, d_eqF, d_eqT]
    exact h I2 A g hF hA2 hp
  · rintro f i ⟨g, I2⟩ hi ⟨hF, A, hA2, hp⟩ hk
    replace hF : ∀ b, b ≠ 78 → I2 b = I b := hF
    replace hA2 : ∀ k, k < T.2.2.1 t → I2 78 k = bI (A k) := hA2
    replace hp : rPs T t (T.2.2.2 t fr 0) A0 A g i := hp
    have hT2 := Tm_78 hT hF
    have hAi := hA2 i hi
    have nx : ∀ ib : Bool, ib = (decide (stp T t i = true ∧ T.2.2.2 t i 0 = T.2.2.2 t fr 0) || hitk T t A i (T.2.2.1 t)) → wX8_reached_19 (nI t) (nI fr) K post f (bI (g || (ib && !A i))) (nI (i + 1)) (q_u2 I2 78 i (bI (A i || ib))) := by
      intro ib hib
      refine hk (_, _) ⟨fr_u2 hF, fun k => if k = i then (A i || ib) else A k, fun k hk2 => ?_, rPs_s hi hp hib⟩
      exact ar_u2 (m := T.2.2.1 t) hA2 k hk2
    show wX8_reached_19 _ _ _ _ _ _ _ _
    rw [wX8_reached_19]
    simp (disch := omega) only [(hT2.t ht).2, fa_lit, nI_ltI, nI_leI, nI_eq, nI_add, pk_mul, nI_clamp, vp_in_nI, l_uk, l_n1, l_n1e, l_n1e2, l_n1l, l_n1l2, l_n1l3, not_true_eq_false, not_false_eq_true, true_implies, false_implies, true_and, and_true, and_self, forall_eq, bI_t, bI_f, Bool.false_eq_true, or_true, true_or, or_false, false_or, s1_ltx, if_true, if_false, Nat.add_zero, Nat.zero_add,  d_leF, d_leT, d_ltF, d_ltT, d_eqF, d_eqT]
    refine m_isKnown hT2 ht (by omega) ?_
    cases es : stp T t i
    · rw [es, decide_eq_false (fun z => nomatch z.1)] at nx
      simp (disch := omega) only [fa_lit, nI_ltI, nI_leI, nI_eq, nI_add, pk_mul, nI_clamp, vp_in_nI, l_uk, l_n1, l_n1e, l_n1e2, l_n1l, l_n1l2, l_n1l3, not_true_eq_false, not_false_eq_true, true_implies, false_implies, true_and, and_true, and_self, forall_eq, bI_t, bI_f, Bool.false_eq_true, or_true, true_or, or_false, false_or, s1_ltx, if_true, if_false, Nat.add_zero, Nat.zero_add,  d_leF, d_leT, d_ltF, d_ltT, d_eqF, d_eqT]
      refine m_reached_68 (b := false) hT2 hw ht hi hA2 ?_
      have nx9 := nx _ rfl
      generalize hh9 : (false || hitk T t A i (T.2.2.1 t)) = ib at nx9 ⊢
      cases g
      · cases ib
        · cases eA : A i
          · rw [eA] at hAi nx9
            simp (disch := omega) only [hAi, fa_lit, nI_ltI, nI_leI, nI_eq, nI_add, pk_mul, nI_clamp, vp_in_nI, l_uk, l_n1, l_n1e, l_n1e2, l_n1l, l_n1l2, l_n1l3, not_true_eq_false, not_false_eq_true, true_implies, false_implies, true_and, and_true, and_self, forall_eq, bI_t, bI_f, Bool.false_eq_true, or_true, true_or, or_false, false_or, s1_ltx, if_true, if_false, Nat.add_zero, Nat.zero_add,  d_leF, d_leT, d_ltF, d_ltT, d_eqF, d_eqT]
            exact nx9
          · rw [eA] at hAi nx9
            simp (disch := omega) only [hAi, fa_lit, nI_ltI, nI_leI, nI_eq, nI_add, pk_mul, nI_clamp, vp_in_nI, l_uk, l_n1, l_n1e, l_n1e2, l_n1l, l_n1l2, l_n1l3, not_true_eq_false, not_false_eq_true, true_implies, false_implies, true_and, and_true, and_self, forall_eq, bI_t, bI_f, Bool.false_eq_true, or_true, true_or, or_false, false_or, s1_ltx, if_true, if_false, Nat.add_zero, Nat.zero_add,  d_leF, d_leT, d_ltF, d_ltT, d_eqF, d_eqT]
            exact nx9
        · cases eA : A i
          · rw [eA] at hAi nx9
            simp (disch := omega) only [hAi, fa_lit, nI_ltI, nI_leI, nI_eq, nI_add, pk_mul, nI_clamp, vp_in_nI, l_uk, l_n1, l_n1e, l_n1e2, l_n1l, l_n1l2, l_n1l3, not_true_eq_false, not_false_eq_true, true_implies, false_implies, true_and, and_true, and_self, forall_eq, bI_t, bI_f, Bool.false_eq_true, or_true, true_or, or_false, false_or, s1_ltx, if_true, if_false, Nat.add_zero, Nat.zero_add,  d_leF, d_leT, d_ltF, d_ltT, d_eqF, d_eqT]
            exact nx9
          · rw [eA] at hAi nx9
            simp (disch := omega) only [hAi, fa_lit, nI_ltI, nI_leI, nI_eq, nI_add, pk_mul, nI_clamp, vp_in_nI, l_uk, l_n1, l_n1e, l_n1e2, l_n1l, l_n1l2, l_n1l3, not_true_eq_false, not_false_eq_true, true_implies, false_implies, true_and, and_true, and_self, forall_eq, bI_t, bI_f, Bool.false_eq_true, or_true, true_or, or_false, false_or, s1_ltx, if_true, if_false, Nat.add_zero, Nat.zero_add,  d_leF, d_leT, d_ltF, d_ltT, d_eqF, d_eqT]
            exact nx9
      · cases ib
        · cases eA : A i
          · rw [eA] at hAi nx9
            simp (disch := omega) only [hAi, fa_lit, nI_ltI, nI_leI, nI_eq, nI_add, pk_mul, nI_clamp, vp_in_nI, l_uk, l_n1, l_n1e, l_n1e2, l_n1l, l_n1l2, l_n1l3, not_true_eq_false, not_false_eq_true, true_implies, false_implies, true_and, and_true, and_self, forall_eq, bI_t, bI_f, Bool.false_eq_true, or_true, true_or, or_false, false_or, s1_ltx, if_true, if_false, Nat.add_zero, Nat.zero_add,  d_leF, d_leT, d_ltF, d_ltT, d_eqF, d_eqT]
            exact nx9
          · rw [eA] at hAi nx9
            simp (disch := omega) only [hAi, fa_lit, nI_ltI, nI_leI, nI_eq, nI_add, pk_mul, nI_clamp, vp_in_nI, l_uk, l_n1, l_n1e, l_n1e2, l_n1l, l_n1l2, l_n1l3, not_true_eq_false, not_false_eq_true, true_implies, false_implies, true_and, and_true, and_self, forall_eq, bI_t, bI_f, Bool.false_eq_true, or_true, true_or, or_false, false_or, s1_ltx, if_true, if_false, Nat.add_zero, Nat.zero_add,  d_leF, d_leT, d_ltF, d_ltT, d_eqF, d_eqT]
            exact nx9
        · cases eA : A i
          · rw [eA] at hAi nx9
            simp (disch := omega) only [hAi, fa_lit, nI_ltI, nI_leI, nI_eq, nI_add, pk_mul, nI_clamp, vp_in_nI, l_uk, l_n1, l_n1e, l_n1e2, l_n1l, l_n1l2, l_n1l3, not_true_eq_false, not_false_eq_true, true_implies, false_implies, true_and, and_true, and_self, forall_eq, bI_t, bI_f, Bool.false_eq_true, or_true, true_or, or_false, false_or, s1_ltx, if_true, if_false, Nat.add_zero, Nat.zero_add,  d_leF, d_leT, d_ltF, d_ltT, d_eqF, d_eqT]
            exact nx9
          · rw [eA] at hAi nx9
            simp (disch := omega) only [hAi, fa_lit, nI_ltI, nI_leI, nI_eq, nI_add, pk_mul, nI_clamp, vp_in_nI, l_uk, l_n1, l_n1e, l_n1e2, l_n1l, l_n1l2, l_n1l3, not_true_eq_false, not_false_eq_true, true_implies, false_implies, true_and, and_true, and_self, forall_eq, bI_t, bI_f, Bool.false_eq_true, or_true, true_or, or_false, false_or, s1_ltx, if_true, if_false, Nat.add_zero, Nat.zero_add,  d_leF, d_leT, d_ltF, d_ltT, d_eqF, d_eqT]
            exact nx9
    · simp (disch := omega) only [fa_lit, nI_ltI, nI_leI, nI_eq, nI_add, pk_mul, nI_clamp, vp_in_nI, l_uk, l_n1, l_n1e, l_n1e2, l_n1l, l_n1l2, l_n1l3, not_true_eq_false, not_false_eq_true, true_implies, false_implies, true_and, and_true, and_self, forall_eq, bI_t, bI_f, Bool.false_eq_true, or_true, true_or, or_false, false_or, s1_ltx, if_true, if_false, Nat.add_zero, Nat.zero_add,  d_leF, d_leT, d_ltF, d_ltT, d_eqF, d_eqT]
      refine m_at (c := 0) hT2 ht (by omega) (by omega) (m_at (c := 0) hT2 ht (by omega) (by omega) ?_)
      refine ⟨fun e3 => ?_, fun e3 => ?_⟩
      · rw [decide_eq_false (fun z => e3 z.2)] at nx
        refine m_reached_68 (b := false) hT2 hw ht hi hA2 ?_
        have nx9 := nx _ rfl
        generalize hh9 : (false || hitk T t A i (T.2.2.1 t)) = ib at nx9 ⊢
        cases g
        · cases ib
          · cases eA : A i
            · rw [eA] at hAi nx9
              simp (disch := omega) only [hAi, fa_lit, nI_ltI, nI_leI, nI_eq, nI_add, pk_mul, nI_clamp, vp_in_nI, l_uk, l_n1, l_n1e, l_n1e2, l_n1l, l_n1l2, l_n1l3, not_true_eq_false, not_false_eq_true, true_implies, false_implies, true_and, and_true, and_self, forall_eq, bI_t, bI_f, Bool.false_eq_true, or_true, true_or, or_false, false_or, s1_ltx, if_true, if_false, Nat.add_zero, Nat.zero_add,  d_leF, d_leT, d_ltF, d_ltT, d_eqF, d_eqT]
              exact nx9
            · rw [eA] at hAi nx9
              simp (disch := omega) only [hAi, fa_lit, nI_ltI, nI_leI, nI_eq, nI_add, pk_mul, nI_clamp, vp_in_nI, l_uk, l_n1, l_n1e, l_n1e2, l_n1l, l_n1l2, l_n1l3, not_true_eq_false, not_false_eq_true, true_implies, false_implies, true_and, and_true, and_self, forall_eq, bI_t, bI_f, Bool.false_eq_true, or_true, true_or, or_false, false_or, s1_ltx, if_true, if_false, Nat.add_zero, Nat.zero_add,  d_leF, d_leT, d_ltF, d_ltT, d_eqF, d_eqT]
              exact nx9
          · cases eA : A i
            · rw [eA] at hAi nx9
              simp (disch := omega) only [hAi, fa_lit, nI_ltI, nI_leI, nI_eq, nI_add, pk_mul, nI_clamp, vp_in_nI, l_uk, l_n1, l_n1e, l_n1e2, l_n1l, l_n1l2, l_n1l3, not_true_eq_false, not_false_eq_true, true_implies, false_implies, true_and, and_true, and_self, forall_eq, bI_t, bI_f, Bool.false_eq_true, or_true, true_or, or_false, false_or, s1_ltx, if_true, if_false, Nat.add_zero, Nat.zero_add,  d_leF, d_leT, d_ltF, d_ltT, d_eqF, d_eqT]
              exact nx9
            · rw [eA] at hAi nx9
              simp (disch := omega) only [hAi, fa_lit, nI_ltI, nI_leI, nI_eq, nI_add, pk_mul, nI_clamp, vp_in_nI, l_uk, l_n1, l_n1e, l_n1e2, l_n1l, l_n1l2, l_n1l3, not_true_eq_false, not_false_eq_true, true_implies, false_implies, true_and, and_true, and_self, forall_eq, bI_t, bI_f, Bool.false_eq_true, or_true, true_or, or_false, false_or, s1_ltx, if_true, if_false, Nat.add_zero, Nat.zero_add,  d_leF, d_leT, d_ltF, d_ltT, d_eqF, d_eqT]
              exact nx9
        · cases ib
          · cases eA : A i
            · rw [eA] at hAi nx9
              simp (disch := omega) only [hAi, fa_lit, nI_ltI, nI_leI, nI_eq, nI_add, pk_mul, nI_clamp, vp_in_nI, l_uk, l_n1, l_n1e, l_n1e2, l_n1l, l_n1l2, l_n1l3, not_true_eq_false, not_false_eq_true, true_implies, false_implies, true_and, and_true, and_self, forall_eq, bI_t, bI_f, Bool.false_eq_true, or_true, true_or, or_false, false_or, s1_ltx, if_true, if_false, Nat.add_zero, Nat.zero_add,  d_leF, d_leT, d_ltF, d_ltT, d_eqF, d_eqT]
              exact nx9
            · rw [eA] at hAi nx9
              simp (disch := omega) only [hAi, fa_lit, nI_ltI, nI_leI, nI_eq, nI_add, pk_mul, nI_clamp, vp_in_nI, l_uk, l_n1, l_n1e, l_n1e2, l_n1l, l_n1l2, l_n1l3, not_true_eq_false, not_false_eq_true, true_implies, false_implies, true_and, and_true, and_self, forall_eq, bI_t, bI_f, Bool.false_eq_true, or_true, true_or, or_false, false_or, s1_ltx, if_true, if_false, Nat.add_zero, Nat.zero_add,  d_leF, d_leT, d_ltF, d_ltT, d_eqF, d_eqT]
              exact nx9
          · cases eA : A i
            · rw [eA] at hAi nx9
              simp (disch := omega) only [hAi, fa_lit, nI_ltI, nI_leI, nI_eq, nI_add, pk_mul, nI_clamp, vp_in_nI, l_uk, l_n1, l_n1e, l_n1e2, l_n1l, l_n1l2, l_n1l3, not_true_eq_false, not_false_eq_true, true_implies, false_implies, true_and, and_true, and_self, forall_eq, bI_t, bI_f, Bool.false_eq_true, or_true, true_or, or_false, false_or, s1_ltx, if_true, if_false, Nat.add_zero, Nat.zero_add,  d_leF, d_leT, d_ltF, d_ltT, d_eqF, d_eqT]
              exact nx9
            · rw [eA] at hAi nx9
              simp (disch := omega) only [hAi, fa_lit, nI_ltI, nI_leI, nI_eq, nI_add, pk_mul, nI_clamp, vp_in_nI, l_uk, l_n1, l_n1e, l_n1e2, l_n1l, l_n1l2, l_n1l3, not_true_eq_false, not_false_eq_true, true_implies, false_implies, true_and, and_true, and_self, forall_eq, bI_t, bI_f, Bool.false_eq_true, or_true, true_or, or_false, false_or, s1_ltx, if_true, if_false, Nat.add_zero, Nat.zero_add,  d_leF, d_leT, d_ltF, d_ltT, d_eqF, d_eqT]
              exact nx9
      · rw [decide_eq_true ⟨es, e3⟩] at nx
        refine m_reached_68 (b := true) hT2 hw ht hi hA2 ?_
        have nx9 := nx _ rfl
        generalize hh9 : (true || hitk T t A i (T.2.2.1 t)) = ib at nx9 ⊢
        cases g
        · cases ib
          · cases eA : A i
            · rw [eA] at hAi nx9
              simp (disch := omega) only [hAi, fa_lit, nI_ltI, nI_leI, nI_eq, nI_add, pk_mul, nI_clamp, vp_in_nI, l_uk, l_n1, l_n1e, l_n1e2, l_n1l, l_n1l2, l_n1l3, not_true_eq_false, not_false_eq_true, true_implies, false_implies, true_and, and_true, and_self, forall_eq, bI_t, bI_f, Bool.false_eq_true, or_true, true_or, or_false, false_or, s1_ltx, if_true, if_false, Nat.add_zero, Nat.zero_add,  d_leF, d_leT, d_ltF, d_ltT, d_eqF, d_eqT]
              exact nx9
            · rw [eA] at hAi nx9
              simp (disch := omega) only [hAi, fa_lit, nI_ltI, nI_leI, nI_eq, nI_add, pk_mul, nI_clamp, vp_in_nI, l_uk, l_n1, l_n1e, l_n1e2, l_n1l, l_n1l2, l_n1l3, not_true_eq_false, not_false_eq_true, true_implies, false_implies, true_and, and_true, and_self, forall_eq, bI_t, bI_f, Bool.false_eq_true, or_true, true_or, or_false, false_or, s1_ltx, if_true, if_false, Nat.add_zero, Nat.zero_add,  d_leF, d_leT, d_ltF, d_ltT, d_eqF, d_eqT]
              exact nx9
          · cases eA : A i
            · rw [eA] at hAi nx9
              simp (disch := omega) only [hAi, fa_lit, nI_ltI, nI_leI, nI_eq, nI_add, pk_mul, nI_clamp, vp_in_nI, l_uk, l_n1, l_n1e, l_n1e2, l_n1l, l_n1l2, l_n1l3, not_true_eq_false, not_false_eq_true, true_implies, false_implies, true_and, and_true, and_self, forall_eq, bI_t, bI_f, Bool.false_eq_true, or_true, true_or, or_false, false_or, s1_ltx, if_true, if_false, Nat.add_zero, Nat.zero_add,  d_leF, d_leT, d_ltF, d_ltT, d_eqF, d_eqT]
              exact nx9
            · rw [eA] at hAi nx9
              simp (disch := omega) only [hAi, fa_lit, nI_ltI, nI_leI, nI_eq, nI_add, pk_mul, nI_clamp, vp_in_nI, l_uk, l_n1, l_n1e, l_n1e2, l_n1l, l_n1l2, l_n1l3, not_true_eq_false, not_false_eq_true, true_implies, false_implies, true_and, and_true, and_self, forall_eq, bI_t, bI_f, Bool.false_eq_true, or_true, true_or, or_false, false_or, s1_ltx, if_true, if_false, Nat.add_zero, Nat.zero_add,  d_leF, d_leT, d_ltF, d_ltT, d_eqF, d_eqT]
              exact nx9
        · cases ib
          · cases eA : A i
            · rw [eA] at hAi nx9
              simp (disch := omega) only [hAi, fa_lit, nI_ltI, nI_leI, nI_eq, nI_add, pk_mul, nI_clamp, vp_in_nI, l_uk, l_n1, l_n1e, l_n1e2, l_n1l, l_n1l2, l_n1l3, not_true_eq_false, not_false_eq_true, true_implies, false_implies, true_and, and_true, and_self, forall_eq, bI_t, bI_f, Bool.false_eq_true, or_true, true_or, or_false, false_or, s1_ltx, if_true, if_false, Nat.add_zero, Nat.zero_add,  d_leF, d_leT, d_ltF, d_ltT, d_eqF, d_eqT]
              exact nx9
            · rw [eA] at hAi nx9
              simp (disch := omega) only [hAi, fa_lit, nI_ltI, nI_leI, nI_eq, nI_add, pk_mul, nI_clamp, vp_in_nI, l_uk, l_n1, l_n1e, l_n1e2, l_n1l, l_n1l2, l_n1l3, not_true_eq_false, not_false_eq_true, true_implies, false_implies, true_and, and_true, and_self, forall_eq, bI_t, bI_f, Bool.false_eq_true, or_true, true_or, or_false, false_or, s1_ltx, if_true, if_false, Nat.add_zero, Nat.zero_add,  d_leF, d_leT, d_ltF, d_ltT, d_eqF, d_eqT]
              exact nx9
          · cases eA : A i
            · rw [eA] at hAi nx9
              simp (disch := omega) only [hAi, fa_lit, nI_ltI, nI_leI, nI_eq, nI_add, pk_mul, nI_clamp, vp_in_nI, l_uk, l_n1, l_n1e, l_n1e2, l_n1l, l_n1l2, l_n1l3, not_true_eq_false, not_false_eq_true, true_implies, false_implies, true_and, and_true, and_self, forall_eq, bI_t, bI_f, Bool.false_eq_true, or_true, true_or, or_false, false_or, s1_ltx, if_true, if_false, Nat.add_zero, Nat.zero_add,  d_leF, d_leT, d_ltF, d_ltT, d_eqF, d_eqT]
              exact nx9
            · rw [eA] at hAi nx9
              simp (disch := omega) only [hAi, fa_lit, nI_ltI, nI_leI, nI_eq, nI_add, pk_mul, nI_clamp, vp_in_nI, l_uk, l_n1, l_n1e, l_n1e2, l_n1l, l_n1l2, l_n1l3, not_true_eq_false, not_false_eq_true, true_implies, false_implies, true_and, and_true, and_self, forall_eq, bI_t, bI_f, Bool.false_eq_true, or_true, true_or, or_false, false_or, s1_ltx, if_true, if_false, Nat.add_zero, Nat.zero_add,  d_leF, d_leT, d_ltF, d_ltT, d_eqF, d_eqT]
              exact nx9
theorem m_reached_10 {I : QI} {T : QT} (hT : Tm I T) (hw : Tw T) {t fr : Nat} (ht : t < 4) (hfr : fr < T.2.2.1 t) (h78 : ∀ k, k < 10 → I 78 k = bI false) {K : QI → Prop} {post : Int32 → QI → Prop} (h : ∀ I2 : QI, (∀ b, b ≠ 78 → I2 b = I b) → (∀ k, k < T.2.2.1 t → I2 78 k = bI (Ac T t (T.2.2.2 t fr 0) k)) → K I2) : ∃ f, wX8_reached_10 (nI t) (nI fr) K post f 1 I := by
  have m10 := (hw.2 t ht).2.1
  refine lpm (fun f (s : Bool × QI × (Nat → Bool)) => wX8_reached_10 (nI t) (nI fr) K post f (bI s.1) s.2.1) (fun s => (∀ b, b ≠ 78 → s.2.1 b = I b) ∧ (∀ k, k < T.2.2.1 t → s.2.1 78 k = bI (s.2.2 k)) ∧ rS T t (T.2.2.2 t fr 0) s.2.2 ∧ (s.1 = false → rB T t (T.2.2.2 t fr 0) s.2.2 ∧ ∀ q, q < T.2.2.1 t → rCl T t s.2.2 q)) (fun s => if s.1 then T.2.2.1 t - ct s.2.2 (T.2.2.1 t) + 1 else 0) ?_ (true, I, fun _ => false) ⟨fun _ _ => rfl, fun k hk => h78 k (by omega), fun r _ z => (nomatch z), fun z => (nomatch z)⟩
  rintro f ⟨g, I2, A⟩ ⟨hF, hA, hS, hC⟩ hk
  replace hF : ∀ b, b ≠ 78 → I2 b = I b := hF
  replace hA : ∀ k, k < T.2.2.1 t → I2 78 k = bI (A k) := hA
  replace hS : rS T t (T.2.2.2 t fr 0) A := hS
  show wX8_reached_10 _ _ _ _ _ _ _
  rw [wX8_reached_10]
  cases g
  · obtain ⟨c1, c2⟩ := hC rfl
    simp (disch := omega) only [fa_lit, nI_ltI, nI_leI, nI_eq, nI_add, pk_mul, nI_clamp, vp_in_nI, l_uk, l_n1, l_n1e, l_n1e2, l_n1l, l_n1l2, l_n1l3, not_true_eq_false, not_false_eq_true, true_implies, false_implies, true_and, and_true, and_self, forall_eq, bI_t, bI_f, Bool.false_eq_true, or_true, true_or, or_false, false_or, s1_ltx, if_true, if_false, Nat.add_zero, Nat.zero_add,  d_leF, d_leT, d_ltF, d_ltT, d_eqF, d_eqT]
    refine h I2 hF (fun k hk2 => ?_)
    rw [hA k hk2, Ac_of hS c1 c2 k hk2]
  · simp (disch := omega) only [fa_lit, nI_ltI, nI_leI, nI_eq, nI_add, pk_mul, nI_clamp, vp_in_nI, l_uk, l_n1, l_n1e, l_n1e2, l_n1l, l_n1l2, l_n1l3, not_true_eq_false, not_false_eq_true, true_implies, false_implies, true_and, and_true, and_self, forall_eq, bI_t, bI_f, Bool.false_eq_true, or_true, true_or, or_false, false_or, s1_ltx, if_true, if_false, Nat.add_zero, Nat.zero_add,  d_leF, d_leT, d_ltF, d_ltT, d_eqF, d_eqT]
    refine m_reached_19 (Tm_78 hT hF) hw ht hfr hA hS (fun I3 A3 g3 hF3 hA3 hp => ?_)
    obtain ⟨p1, p2, p3, p4⟩ := hp
    refine hk (g3, I3, A3) ⟨fun b hb => (hF3 b hb).trans (hF b hb), hA3, p1, fun z => ?_⟩ ?_
    · obtain ⟨q1, q2⟩ := p3 z
      refine ⟨fun q hq s1 s2 => ?_, fun q hq k hk2 hk3 s1 s2 => ?_⟩
      · show A3 q = true
        rw [q1 q hq]
        exact (q2 q hq).1 s1 s2
      · show A3 q = true
        rw [q1 q hq]
        exact (q2 q hq).2 k hk2 (by rw [← q1 k hk2]; exact hk3) s1 s2
    · cases g3
      · show 0 < T.2.2.1 t - ct A (T.2.2.1 t) + 1
        omega
      · have := p4 rfl
        have := ct_le A3 (T.2.2.1 t)
        show T.2.2.1 t - ct A3 (T.2.2.1 t) + 1 < T.2.2.1 t - ct A (T.2.2.1 t) + 1
        omega
