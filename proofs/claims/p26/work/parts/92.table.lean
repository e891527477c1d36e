/-! pure: a table of the class -/
def al (T : QT) (t r s : Nat) : Bool := decide (∀ c, c < T.2.1 t → T.2.2.2 t r c = T.2.2.2 t s c)
theorem p_areAlike {I : QI} {T : QT} (hT : Tc I T) (hw : Tw T) {t r s : Nat} (ht : t < 4) (hr : r < T.2.2.1 t) (hs : s < T.2.2.1 t) {post : Int32 → Prop} (h : post (bI (al T t r s))) : wX5_areAlike t (nI r) (nI s) I post := by
  obtain ⟨h1, h2, h3⟩ := hT.2 t ht
  obtain ⟨w1, w2, w3, w4⟩ := hw.2 t ht
  unfold wX5_areAlike
  refine lp (fun f i (_ : Unit) => wX5_areAlike_2 t (nI r) (nI s) I post f (nI i)) (fun i _ => ∀ c, c < i → T.2.2.2 t r c = T.2.2.2 t s c) (T.2.1 t) ?_ ?_ 0 () (Nat.zero_le _) (fun c hc => absurd hc (Nat.not_lt_zero c))
  · intro f _ hI
    have e : al T t r s = true := decide_eq_true hI
    rw [e] at h
    show wX5_areAlike_2 _ _ _ _ _ _ _
    rw [wX5_areAlike_2]
    simp (disch := omega) only [h1, fa_lit, nI_ltI, nI_leI, nI_eq, nI_add, pk_mul, nI_clamp, vp_in_nI, l_uk, l_n1, l_n1e, l_n1e2, l_n1l, l_n1l2, l_n1l3, not_true_eq_false, not_false_eq_true, true_implies, false_implies, true_and, and_true, and_self, forall_eq, bI_t, bI_f, Bool.false_eq_true, or_true, true_or, or_false, false_or, s1_ltx,  d_leF, d_leT, d_ltF, d_ltT, d_eqF, d_eqT]
    exact h
  · intro f i _ hi hI hk
    show wX5_areAlike_2 _ _ _ _ _ _ _
    rw [wX5_areAlike_2]
    simp (disch := omega) only [h1, fa_lit, nI_ltI, nI_leI, nI_eq, nI_add, pk_mul, nI_clamp, vp_in_nI, l_uk, l_n1, l_n1e, l_n1e2, l_n1l, l_n1l2, l_n1l3, not_true_eq_false, not_false_eq_true, true_implies, false_implies, true_and, and_true, and_self, forall_eq, bI_t, bI_f, Bool.false_eq_true, or_true, true_or, or_false, false_or, s1_ltx,  d_leF, d_leT, d_ltF, d_ltT, d_eqF, d_eqT]
    refine p_value hT hw ht hr hi ?_
    refine p_value hT hw ht hs hi ?_
    refine ⟨fun e => ?_, fun e => ?_⟩
    · refine hk () (fun c hc => ?_)
      by_cases e2 : c = i
      · subst e2; exact e
      · exact hI c (by omega)
    · have e2 : al T t r s = false := decide_eq_false (fun z => e (z i hi))
      rw [e2] at h
      exact h
theorem p_countAlike {I : QI} {T : QT} (hT : Tc I T) (hw : Tw T) {t r : Nat} (ht : t < 4) (hr : r < T.2.2.1 t) {post : Int32 → Prop} (h : post (nI (ct (al T t r) (T.2.2.1 t)))) : wX5_countAlike t (nI r) I post := by
  obtain ⟨h1, h2, h3⟩ := hT.2 t ht
  obtain ⟨w1, w2, w3, w4⟩ := hw.2 t ht
  unfold wX5_countAlike
  refine lp (fun f i (n : Nat) => wX5_countAlike_4 t (nI r) I post f (nI n) (nI i)) (fun i n => n = ct (al T t r) i) (T.2.2.1 t) ?_ ?_ 0 0 (Nat.zero_le _) rfl
  · intro f n hI
    show wX5_countAlike_4 _ _ _ _ _ _ _
    rw [wX5_countAlike_4]
    simp (disch := omega) only [h2, fa_lit, nI_ltI, nI_leI, nI_eq, nI_add, pk_mul, nI_clamp, vp_in_nI, l_uk, l_n1, l_n1e, l_n1e2, l_n1l, l_n1l2, l_n1l3, not_true_eq_false, not_false_eq_true, true_implies, false_implies, true_and, and_true, and_self, forall_eq, bI_t, bI_f, Bool.false_eq_true, or_true, true_or, or_false, false_or, s1_ltx,  d_leF, d_leT, d_ltF, d_ltT, d_eqF, d_eqT]
    rw [hI]
    exact h
  · intro f i n hi hI hk
    show wX5_countAlike_4 _ _ _ _ _ _ _
    rw [wX5_countAlike_4]
    simp (disch := omega) only [h2, fa_lit, nI_ltI, nI_leI, nI_eq, nI_add, pk_mul, nI_clamp, vp_in_nI, l_uk, l_n1, l_n1e, l_n1e2, l_n1l, l_n1l2, l_n1l3, not_true_eq_false, not_false_eq_true, true_implies, false_implies, true_and, and_true, and_self, forall_eq, bI_t, bI_f, Bool.false_eq_true, or_true, true_or, or_false, false_or, s1_ltx,  d_leF, d_leT, d_ltF, d_ltT, d_eqF, d_eqT]
    refine p_areAlike hT hw ht hr hi ?_
    cases e : al T t r i
    · simp (disch := omega) only [fa_lit, nI_ltI, nI_leI, nI_eq, nI_add, pk_mul, nI_clamp, vp_in_nI, l_uk, l_n1, l_n1e, l_n1e2, l_n1l, l_n1l2, l_n1l3, not_true_eq_false, not_false_eq_true, true_implies, false_implies, true_and, and_true, and_self, forall_eq, bI_t, bI_f, Bool.false_eq_true, or_true, true_or, or_false, false_or, s1_ltx,  d_leF, d_leT, d_ltF, d_ltT, d_eqF, d_eqT]
      exact hk n (by rw [hI, ct_s, e]; rfl)
    · simp (disch := omega) only [fa_lit, nI_ltI, nI_leI, nI_eq, nI_add, pk_mul, nI_clamp, vp_in_nI, l_uk, l_n1, l_n1e, l_n1e2, l_n1l, l_n1l2, l_n1l3, not_true_eq_false, not_false_eq_true, true_implies, false_implies, true_and, and_true, and_self, forall_eq, bI_t, bI_f, Bool.false_eq_true, or_true, true_or, or_false, false_or, s1_ltx,  d_leF, d_leT, d_ltF, d_ltT, d_eqF, d_eqT]
      exact hk (n + 1) (by rw [hI, ct_s, e]; rfl)
theorem p_isFirstAlike {I : QI} {T : QT} (hT : Tc I T) (hw : Tw T) {t r : Nat} (ht : t < 4) (hr : r < T.2.2.1 t) {post : Int32 → Prop} (h : post (bI (decide (ct (al T t r) r = 0)))) : wX5_isFirstAlike t (nI r) I post := by
  obtain ⟨h1, h2, h3⟩ := hT.2 t ht
  obtain ⟨w1, w2, w3, w4⟩ := hw.2 t ht
  unfold wX5_isFirstAlike
  refine lp (fun f i (_ : Unit) => wX5_isFirstAlike_2 t (nI r) I post f (nI i)) (fun i _ => ∀ c, c < i → al T t r c = false) r ?_ ?_ 0 () (Nat.zero_le _) (fun c hc => absurd hc (Nat.not_lt_zero c))
  · intro f n hI
    rw [decide_eq_true (ct_0.mpr hI)] at h
    show wX5_isFirstAlike_2 _ _ _ _ _ _
    rw [wX5_isFirstAlike_2]
    simp (disch := omega) only [fa_lit, nI_ltI, nI_leI, nI_eq, nI_add, pk_mul, nI_clamp, vp_in_nI, l_uk, l_n1, l_n1e, l_n1e2, l_n1l, l_n1l2, l_n1l3, not_true_eq_false, not_false_eq_true, true_implies, false_implies, true_and, and_true, and_self, forall_eq, bI_t, bI_f, Bool.false_eq_true, or_true, true_or, or_false, false_or, s1_ltx,  d_leF, d_leT, d_ltF, d_ltT, d_eqF, d_eqT]
    exact h
  · intro f i n hi hI hk
    show wX5_isFirstAlike_2 _ _ _ _ _ _
    rw [wX5_isFirstAlike_2]
    simp (disch := omega) only [fa_lit, nI_ltI, nI_leI, nI_eq, nI_add, pk_mul, nI_clamp, vp_in_nI, l_uk, l_n1, l_n1e, l_n1e2, l_n1l, l_n1l2, l_n1l3, not_true_eq_false, not_false_eq_true, true_implies, false_implies, true_and, and_true, and_self, forall_eq, bI_t, bI_f, Bool.false_eq_true, or_true, true_or, or_false, false_or, s1_ltx,  d_leF, d_leT, d_ltF, d_ltT, d_eqF, d_eqT]
    refine p_areAlike hT hw ht hr (by omega) ?_
    cases e : al T t r i
    · simp (disch := omega) only [fa_lit, nI_ltI, nI_leI, nI_eq, nI_add, pk_mul, nI_clamp, vp_in_nI, l_uk, l_n1, l_n1e, l_n1e2, l_n1l, l_n1l2, l_n1l3, not_true_eq_false, not_false_eq_true, true_implies, false_implies, true_and, and_true, and_self, forall_eq, bI_t, bI_f, Bool.false_eq_true, or_true, true_or, or_false, false_or, s1_ltx,  d_leF, d_leT, d_ltF, d_ltT, d_eqF, d_eqT]
      refine hk () (fun c hc => ?_)
      by_cases e2 : c = i
      · subst e2; exact e
      · exact hI c (by omega)
    · simp (disch := omega) only [fa_lit, nI_ltI, nI_leI, nI_eq, nI_add, pk_mul, nI_clamp, vp_in_nI, l_uk, l_n1, l_n1e, l_n1e2, l_n1l, l_n1l2, l_n1l3, not_true_eq_false, not_false_eq_true, true_implies, false_implies, true_and, and_true, and_self, forall_eq, bI_t, bI_f, Bool.false_eq_true, or_true, true_or, or_false, false_or, s1_ltx,  d_leF, d_leT, d_ltF, d_ltT, d_eqF, d_eqT]
      rw [decide_eq_false (fun z => by have := ct_0.mp z i hi; rw [e] at this; cases this)] at h
      exact h
def kn (T : QT) (t c r : Nat) : Bool := decide (T.2.2.2 t r c ≠ UK ∧ ∀ k, k < r → T.2.2.2 t k c ≠ T.2.2.2 t r c)
theorem p_isFirstKnown {I : QI} {T : QT} (hT : Tc I T) (hw : Tw T) {t r c : Nat} (ht : t < 4) (hr : r < T.2.2.1 t) (hc : c < T.2.1 t) {post : Int32 → Prop} (h : post (bI (kn T t c r))) : wX5_isFirstKnown t (nI r) (nI c) I post := by
  obtain ⟨h1, h2, h3⟩ := hT.2 t ht
  obtain ⟨w1, w2, w3, w4⟩ := hw.2 t ht
  unfold wX5_isFirstKnown
  refine p_value hT hw ht hr hc ?_
  refine lp (fun f i (_ : Unit) => wX5_isFirstKnown_10 t (nI r) (nI c) I (fun u4 => ((u4 = (-1000) → post 0) ∧ (¬ u4 = (-1000) → post 1))) post f (T.2.2.2 t r c) (nI i)) (fun i _ => ∀ k, k < i → T.2.2.2 t k c ≠ T.2.2.2 t r c) r ?_ ?_ 0 () (Nat.zero_le _) (fun c hc => absurd hc (Nat.not_lt_zero c))
  · intro f n hI
    show wX5_isFirstKnown_10 _ _ _ _ _ _ _ _ _
    rw [wX5_isFirstKnown_10]
    simp (disch := omega) only [fa_lit, nI_ltI, nI_leI, nI_eq, nI_add, pk_mul, nI_clamp, vp_in_nI, l_uk, l_n1, l_n1e, l_n1e2, l_n1l, l_n1l2, l_n1l3, not_true_eq_false, not_false_eq_true, true_implies, false_implies, true_and, and_true, and_self, forall_eq, bI_t, bI_f, Bool.false_eq_true, or_true, true_or, or_false, false_or, s1_ltx,  d_leF, d_leT, d_ltF, d_ltT, d_eqF, d_eqT]
    refine ⟨fun e => ?_, fun e => ?_⟩
    · have e2 : kn T t c r = false := decide_eq_false (fun z => z.1 e)
      rw [e2] at h
      exact h
    · have e2 : kn T t c r = true := decide_eq_true ⟨e, hI⟩
      rw [e2] at h
      exact h
  · intro f i n hi hI hk
    show wX5_isFirstKnown_10 _ _ _ _ _ _ _ _ _
    rw [wX5_isFirstKnown_10]
    simp (disch := omega) only [fa_lit, nI_ltI, nI_leI, nI_eq, nI_add, pk_mul, nI_clamp, vp_in_nI, l_uk, l_n1, l_n1e, l_n1e2, l_n1l, l_n1l2, l_n1l3, not_true_eq_false, not_false_eq_true, true_implies, false_implies, true_and, and_true, and_self, forall_eq, bI_t, bI_f, Bool.false_eq_true, or_true, true_or, or_false, false_or, s1_ltx,  d_leF, d_leT, d_ltF, d_ltT, d_eqF, d_eqT]
    refine p_value hT hw ht (by omega) hc ?_
    refine ⟨fun e => ?_, fun e => ?_⟩
    · refine hk () (fun c hc => ?_)
      by_cases e2 : c = i
      · subst e2; exact e
      · exact hI c (by omega)
    · have e2 : kn T t c r = false := decide_eq_false (fun z => z.2 i hi e)
      rw [e2] at h
      exact h
theorem p_countKnownValues {I : QI} {T : QT} (hT : Tc I T) (hw : Tw T) {t c : Nat} (ht : t < 4) (hc : c < T.2.1 t) {post : Int32 → Prop} (h : post (nI (ct (kn T t c) (T.2.2.1 t)))) : wX5_countKnownValues t (nI c) I post := by
  obtain ⟨h1, h2, h3⟩ := hT.2 t ht
  obtain ⟨w1, w2, w3, w4⟩ := hw.2 t ht
  unfold wX5_countKnownValues
  refine lp (fun f i (n : Nat) => wX5_countKnownValues_4 t (nI c) I post f (nI n) (nI i)) (fun i n => n = ct (kn T t c) i) (T.2.2.1 t) ?_ ?_ 0 0 (Nat.zero_le _) rfl
  · intro f n hI
    show wX5_countKnownValues_4 _ _ _ _ _ _ _
    rw [wX5_countKnownValues_4]
    simp (disch := omega) only [h2, fa_lit, nI_ltI, nI_leI, nI_eq, nI_add, pk_mul, nI_clamp, vp_in_nI, l_uk, l_n1, l_n1e, l_n1e2, l_n1l, l_n1l2, l_n1l3, not_true_eq_false, not_false_eq_true, true_implies, false_implies, true_and, and_true, and_self, forall_eq, bI_t, bI_f, Bool.false_eq_true, or_true, true_or, or_false, false_or, s1_ltx,  d_leF, d_leT, d_ltF, d_ltT, d_eqF, d_eqT]
    rw [hI]
    exact h
  · intro f i n hi hI hk
    show wX5_countKnownValues_4 _ _ _ _ _ _ _
    rw [wX5_countKnownValues_4]
    simp (disch := omega) only [h2, fa_lit, nI_ltI, nI_leI, nI_eq, nI_add, pk_mul, nI_clamp, vp_in_nI, l_uk, l_n1, l_n1e, l_n1e2, l_n1l, l_n1l2, l_n1l3, not_true_eq_false, not_false_eq_true, true_implies, false_implies, true_and, and_true, and_self, forall_eq, bI_t, bI_f, Bool.false_eq_true, or_true, true_or, or_false, false_or, s1_ltx,  d_leF, d_leT, d_ltF, d_ltT, d_eqF, d_eqT]
    refine p_isFirstKnown hT hw ht hi hc ?_
    cases e : kn T t c i
    · simp (disch := omega) only [fa_lit, nI_ltI, nI_leI, nI_eq, nI_add, pk_mul, nI_clamp, vp_in_nI, l_uk, l_n1, l_n1e, l_n1e2, l_n1l, l_n1l2, l_n1l3, not_true_eq_false, not_false_eq_true, true_implies, false_implies, true_and, and_true, and_self, forall_eq, bI_t, bI_f, Bool.false_eq_true, or_true, true_or, or_false, false_or, s1_ltx,  d_leF, d_leT, d_ltF, d_ltT, d_eqF, d_eqT]
      exact hk n (by rw [hI, ct_s, e]; rfl)
    · simp (disch := omega) only [fa_lit, nI_ltI, nI_leI, nI_eq, nI_add, pk_mul, nI_clamp, vp_in_nI, l_uk, l_n1, l_n1e, l_n1e2, l_n1l, l_n1l2, l_n1l3, not_true_eq_false, not_false_eq_true, true_implies, false_implies, true_and, and_true, and_self, forall_eq, bI_t, bI_f, Bool.false_eq_true, or_true, true_or, or_false, false_or, s1_ltx,  d_leF, d_leT, d_ltF, d_ltT, d_eqF, d_eqT]
      exact hk (n + 1) (by rw [hI, ct_s, e]; rfl)
/-! ways -/
def stp (T : QT) (t r : Nat) : Bool := decide (T.2.2.2 t r 0 ≠ UK ∧ T.2.2.2 t r 1 ≠ UK)
theorem p_isStep {I : QI} {T : QT} (hT : Tc I T) (hw : Tw T) {t r : Nat} (ht : t < 4) (h1w : 1 < T.2.1 t) (hr : r < T.2.2.1 t) {post : Int32 → Prop} (h : post (bI (stp T t r))) : wX5_isStep t (nI r) I post := by
  unfold wX5_isStep
  refine p_value (c := 0) hT hw ht hr (by omega) ?_
  refine ⟨fun e => ?_, fun e => p_value (c := 1) hT hw ht hr h1w ?_⟩
  · have e2 : stp T t r = false := decide_eq_false (fun z => z.1 e)
    rw [e2] at h
    exact h
  · refine ⟨fun e3 => ?_, fun e3 => ?_⟩
    · have e2 : stp T t r = false := decide_eq_false (fun z => z.2 e3)
      rw [e2] at h
      exact h
    · have e2 : stp T t r = true := decide_eq_true ⟨e, e3⟩
      rw [e2] at h
      exact h
def nws (T : QT) (t r : Nat) : Bool := stp T t r && decide (∀ k, k < r → stp T t k = true → T.2.2.2 t k 0 ≠ T.2.2.2 t r 0)
theorem p_isNewStart {I : QI} {T : QT} (hT : Tc I T) (hw : Tw T) {t r : Nat} (ht : t < 4) (h1w : 1 < T.2.1 t) (hr : r < T.2.2.1 t) {post : Int32 → Prop} (h : post (bI (nws T t r))) : wX5_isNewStart t (nI r) I post := by
  obtain ⟨h1, h2, h3⟩ := hT.2 t ht
  obtain ⟨w1, w2, w3, w4⟩ := hw.2 t ht
  unfold wX5_isNewStart
  refine lp (fun f i (_ : Unit) => wX5_isNewStart_2 t (nI r) I (wX5_isStep t (nI r) I (fun r6 => ((r6 = 0 ∨ r6 = 1) ∧ post r6))) post f (nI i)) (fun i _ => ∀ k, k < i → stp T t k = true → T.2.2.2 t k 0 ≠ T.2.2.2 t r 0) r ?_ ?_ 0 () (Nat.zero_le _) (fun c hc => absurd hc (Nat.not_lt_zero c))
  · intro f n hI
    show wX5_isNewStart_2 _ _ _ _ _ _ _
    rw [wX5_isNewStart_2]
    simp (disch := omega) only [fa_lit, nI_ltI, nI_leI, nI_eq, nI_add, pk_mul, nI_clamp, vp_in_nI, l_uk, l_n1, l_n1e, l_n1e2, l_n1l, l_n1l2, l_n1l3, not_true_eq_false, not_false_eq_true, true_implies, false_implies, true_and, and_true, and_self, forall_eq, bI_t, bI_f, Bool.false_eq_true, or_true, true_or, or_false, false_or, s1_ltx,  d_leF, d_leT, d_ltF, d_ltT, d_eqF, d_eqT]
    refine p_isStep hT hw ht h1w hr ⟨bI_01 _, ?_⟩
    have e2 : nws T t r = stp T t r := by unfold nws; rw [decide_eq_true hI, Bool.and_true]
    rw [e2] at h
    exact h
  · intro f i n hi hI hk
    show wX5_isNewStart_2 _ _ _ _ _ _ _
    rw [wX5_isNewStart_2]
    simp (disch := omega) only [fa_lit, nI_ltI, nI_leI, nI_eq, nI_add, pk_mul, nI_clamp, vp_in_nI, l_uk, l_n1, l_n1e, l_n1e2, l_n1l, l_n1l2, l_n1l3, not_true_eq_false, not_false_eq_true, true_implies, false_implies, true_and, and_true, and_self, forall_eq, bI_t, bI_f, Bool.false_eq_true, or_true, true_or, or_false, false_or, s1_ltx,  d_leF, d_leT, d_ltF, d_ltT, d_eqF, d_eqT]
    refine p_isStep hT hw ht h1w (by omega) ?_
    cases e : stp T t i
    · simp (disch := omega) only [fa_lit, nI_ltI, nI_leI, nI_eq, nI_add, pk_mul, nI_clamp, vp_in_nI, l_uk, l_n1, l_n1e, l_n1e2, l_n1l, l_n1l2, l_n1l3, not_true_eq_false, not_false_eq_true, true_implies, false_implies, true_and, and_true, and_self, forall_eq, bI_t, bI_f, Bool.false_eq_true, or_true, true_or, or_false, false_or, s1_ltx,  d_leF, d_leT, d_ltF, d_ltT, d_eqF, d_eqT]
      refine hk () (fun c hc hs => ?_)
      by_cases e2 : c = i
      · subst e2; rw [e] at hs; cases hs
      · exact hI c (by omega) hs
    · simp (disch := omega) only [fa_lit, nI_ltI, nI_leI, nI_eq, nI_add, pk_mul, nI_clamp, vp_in_nI, l_uk, l_n1, l_n1e, l_n1e2, l_n1l, l_n1l2, l_n1l3, not_true_eq_false, not_false_eq_true, true_implies, false_implies, true_and, and_true, and_self, forall_eq, bI_t, bI_f, Bool.false_eq_true, or_true, true_or, or_false, false_or, s1_ltx,  d_leF, d_leT, d_ltF, d_ltT, d_eqF, d_eqT]
      refine p_value (c := 0) hT hw ht (by omega) (by omega) ?_
      refine p_value (c := 0) hT hw ht hr (by omega) ?_
      refine ⟨fun e2 => ?_, fun e2 => ?_⟩
      · refine hk () (fun c hc hs => ?_)
        by_cases e3 : c = i
        · subst e3; exact e2
        · exact hI c (by omega) hs
      · have e3 : nws T t r = false := by unfold nws; rw [decide_eq_false (fun z => z i hi e e2), Bool.and_false]
        rw [e3] at h
        exact h
