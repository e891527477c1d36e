/-! pure: the reference's ways (whole) -/
theorem m_reached_226 {I : QI} {T : QT} (hT : Tm I T) {t r : Nat} (ht : t < 4) (hr : r < 10) {A : Nat → Bool} (hA : ∀ k, k ≤ r → I 78 k = bI (A k)) {x4 y : Int32} {K : Int32 → Int32 → Int32 → QI → Prop} {post : Int32 → QI → Prop} (h : K x4 (nI r) (bI (A r && !rE T t A r (T.2.2.2 t r 1))) I) : ∃ f, wX8_reached_226 (nI t) y K post f x4 (nI r) (bI (A r)) 0 I := by
  refine lp (fun f j (c : Bool) => wX8_reached_226 (nI t) y K post f x4 (nI r) (bI c) (nI j) I) (fun j c => c = (A r && !rE T t A j (T.2.2.2 t r 1))) r ?_ ?_ 0 (A r) (Nat.zero_le _) ?_
  · intro f c hc
    rw [← hc] at h
    show wX8_reached_226 _ _ _ _ _ _ _ _ _ _
    rw [wX8_reached_226]
    simp (disch := omega) only [fa_lit, nI_ltI, nI_leI, nI_eq, nI_add, pk_mul, nI_clamp, vp_in_nI, l_uk, l_n1, l_n1e, l_n1e2, l_n1l, l_n1l2, l_n1l3, not_true_eq_false, not_false_eq_true, true_implies, false_implies, true_and, and_true, and_self, forall_eq, bI_t, bI_f, Bool.false_eq_true, or_true, true_or, or_false, false_or, s1_ltx, if_true, if_false, Nat.add_zero, Nat.zero_add,  d_leF, d_leT, d_ltF, d_ltT, d_eqF, d_eqT]
    exact h
  · intro f j c hj hc hk
    have es : rE T t A (j + 1) (T.2.2.2 t r 1) = (rE T t A j (T.2.2.2 t r 1) || (A j && decide (T.2.2.2 t j 1 = T.2.2.2 t r 1))) := by
      cases e : (A j && decide (T.2.2.2 t j 1 = T.2.2.2 t r 1))
      · rw [Bool.or_false]
        unfold rE
        congr 1
        refine decide_eq_decide.mpr ⟨fun z k hk => z k (by omega), fun z k hk hA2 hv => ?_⟩
        by_cases e3 : k = j
        · subst e3
          rw [hA2, decide_eq_true hv] at e
          cases e
        · exact z k (by omega) hA2 hv
      · rw [Bool.or_true]
        have e2 := (Bool.and_eq_true _ _).mp e
        unfold rE
        rw [decide_eq_false (fun z => z j (by omega) e2.1 (of_decide_eq_true e2.2))]
        rfl
    have nx : wX8_reached_226 (nI t) y K post f x4 (nI r) (bI (c && !(A j && decide (T.2.2.2 t j 1 = T.2.2.2 t r 1)))) (nI (j + 1)) I := hk _ (by rw [es, hc, Bool.not_or, Bool.and_assoc])
    have hAj := hA j (by omega)
    show wX8_reached_226 _ _ _ _ _ _ _ _ _ _
    rw [wX8_reached_226]
    cases c
    · simp (disch := omega) only [fa_lit, nI_ltI, nI_leI, nI_eq, nI_add, pk_mul, nI_clamp, vp_in_nI, l_uk, l_n1, l_n1e, l_n1e2, l_n1l, l_n1l2, l_n1l3, not_true_eq_false, not_false_eq_true, true_implies, false_implies, true_and, and_true, and_self, forall_eq, bI_t, bI_f, Bool.false_eq_true, or_true, true_or, or_false, false_or, s1_ltx, if_true, if_false, Nat.add_zero, Nat.zero_add,  d_leF, d_leT, d_ltF, d_ltT, d_eqF, d_eqT]
      exact nx
    · cases e : A j
      · rw [e] at hAj nx
        simp (disch := omega) only [hAj, fa_lit, nI_ltI, nI_leI, nI_eq, nI_add, pk_mul, nI_clamp, vp_in_nI, l_uk, l_n1, l_n1e, l_n1e2, l_n1l, l_n1l2, l_n1l3, not_true_eq_false, not_false_eq_true, true_implies, false_implies, true_and, and_true, and_self, forall_eq, bI_t, bI_f, Bool.false_eq_true, or_true, true_or, or_false, false_or, s1_ltx, if_true, if_false, Nat.add_zero, Nat.zero_add,  d_leF, d_leT, d_ltF, d_ltT, d_eqF, d_eqT]
        exact nx
      · rw [e] at hAj nx
        simp (disch := omega) only [hAj, fa_lit, nI_ltI, nI_leI, nI_eq, nI_add, pk_mul, nI_clamp, vp_in_nI, l_uk, l_n1, l_n1e, l_n1e2, l_n1l, l_n1l2, l_n1l3, not_true_eq_false, not_false_eq_true, true_implies, false_implies, true_and, and_true, and_self, forall_eq, bI_t, bI_f, Bool.false_eq_true, or_true, true_or, or_false, false_or, s1_ltx, if_true, if_false, Nat.add_zero, Nat.zero_add,  d_leF, d_leT, d_ltF, d_ltT, d_eqF, d_eqT]
        refine m_at (c := 1) hT ht (by omega) (by omega) (m_at (c := 1) hT ht (by omega) (by omega) ?_)
        refine ⟨fun e3 => ?_, fun e3 => ?_⟩
        · rw [decide_eq_true e3] at nx
          exact nx
        · rw [decide_eq_false e3] at nx
          exact nx
  · have : rE T t A 0 (T.2.2.2 t r 1) = false := by
      unfold rE
      rw [decide_eq_true (show ∀ k, k < 0 → A k = true → T.2.2.2 t k 1 ≠ T.2.2.2 t r 1 from fun k hk => absurd hk (Nat.not_lt_zero k))]
      rfl
    rw [this, Bool.not_false, Bool.and_true]
theorem m_reached {I : QI} {T : QT} (hT : Tm I T) (hw : Tw T) {t fr : Nat} (ht : t < 4) (hfr : fr < T.2.2.1 t) {post : Int32 → QI → Prop} (h : ∀ I2 : QI, (∀ b, b ≠ 78 → I2 b = I b) → post (nI (ends T t fr)) I2) : wX8_reached (nI t) (nI fr) I post := by
  have m10 := (hw.2 t ht).2.1
  unfold wX8_reached
  refine m_fill (fun I2 hF2 hG2 => ?_)
  refine m_reached_10 (Tm_78 hT hF2) hw ht hfr hG2 (fun I3 hF3 hA3 => ?_)
  have hF4 : ∀ b, b ≠ 78 → I3 b = I b := fun b hb => (hF3 b hb).trans (hF2 b hb)
  have hT3 := Tm_78 hT hF4
  refine lp (fun f i (n : Nat) => wX8_reached_203 (nI t) (nI fr) post f (nI n) (nI i) I3) (fun i n => n = ct (fun q => Ac T t (T.2.2.2 t fr 0) q && !rE T t (Ac T t (T.2.2.2 t fr 0)) q (T.2.2.2 t q 1)) i) (T.2.2.1 t) ?_ ?_ 0 0 (Nat.zero_le _) rfl
  · intro f n hn
    have := h I3 hF4
    unfold ends at this
    rw [← hn] at this
    show wX8_reached_203 _ _ _ _ _ _ _
    rw [wX8_reached_203]
    simp (disch := omega) only [(hT3.t ht).2, fa_lit, nI_ltI, nI_leI, nI_eq, nI_add, pk_mul, nI_clamp, vp_in_nI, l_uk, l_n1, l_n1e, l_n1e2, l_n1l, l_n1l2, l_n1l3, not_true_eq_false, not_false_eq_true, true_implies, false_implies, true_and, and_true, and_self, forall_eq, bI_t, bI_f, Bool.false_eq_true, or_true, true_or, or_false, false_or, s1_ltx, if_true, if_false, Nat.add_zero, Nat.zero_add,  d_leF, d_leT, d_ltF, d_ltT, d_eqF, d_eqT]
    exact this
  · intro f i n hi hn hk
    show wX8_reached_203 _ _ _ _ _ _ _
    rw [wX8_reached_203]
    simp (disch := omega) only [(hT3.t ht).2, fa_lit, nI_ltI, nI_leI, nI_eq, nI_add, pk_mul, nI_clamp, vp_in_nI, l_uk, l_n1, l_n1e, l_n1e2, l_n1l, l_n1l2, l_n1l3, not_true_eq_false, not_false_eq_true, true_implies, false_implies, true_and, and_true, and_self, forall_eq, bI_t, bI_f, Bool.false_eq_true, or_true, true_or, or_false, false_or, s1_ltx, if_true, if_false, Nat.add_zero, Nat.zero_add,  d_leF, d_leT, d_ltF, d_ltT, d_eqF, d_eqT]
    rw [hA3 i hi]
    refine m_reached_226 hT3 ht (by omega) (fun k hk2 => hA3 k (by omega)) ?_
    cases e : (Ac T t (T.2.2.2 t fr 0) i && !rE T t (Ac T t (T.2.2.2 t fr 0)) i (T.2.2.2 t i 1))
    · simp (disch := omega) only [fa_lit, nI_ltI, nI_leI, nI_eq, nI_add, pk_mul, nI_clamp, vp_in_nI, l_uk, l_n1, l_n1e, l_n1e2, l_n1l, l_n1l2, l_n1l3, not_true_eq_false, not_false_eq_true, true_implies, false_implies, true_and, and_true, and_self, forall_eq, bI_t, bI_f, Bool.false_eq_true, or_true, true_or, or_false, false_or, s1_ltx, if_true, if_false, Nat.add_zero, Nat.zero_add,  d_leF, d_leT, d_ltF, d_ltT, d_eqF, d_eqT]
      exact hk n (by rw [ct_s, e, hn]; rfl)
    · simp (disch := omega) only [fa_lit, nI_ltI, nI_leI, nI_eq, nI_add, pk_mul, nI_clamp, vp_in_nI, l_uk, l_n1, l_n1e, l_n1e2, l_n1l, l_n1l2, l_n1l3, not_true_eq_false, not_false_eq_true, true_implies, false_implies, true_and, and_true, and_self, forall_eq, bI_t, bI_f, Bool.false_eq_true, or_true, true_or, or_false, false_or, s1_ltx, if_true, if_false, Nat.add_zero, Nat.zero_add,  d_leF, d_leT, d_ltF, d_ltT, d_eqF, d_eqT]
      exact hk (n + 1) (by rw [ct_s, e, hn]; rfl)
theorem m_ways_66 {I : QI} {T : QT} (hT : Tm I T) {t r : Nat} (ht : t < 4) (hr : r < 10) {x3 : Int32} {K : Int32 → Int32 → Int32 → QI → Prop} {post : Int32 → QI → Prop} (h : K x3 (nI r) (bI (nws T t r)) I) : ∃ f, wX8_ways_66 (nI t) K post f x3 (nI r) (bI (stp T t r)) 0 I := by
  refine lp (fun f j (c : Bool) => wX8_ways_66 (nI t) K post f x3 (nI r) (bI c) (nI j) I) (fun j c => c = (stp T t r && decide (∀ k, k < j → stp T t k = true → T.2.2.2 t k 0 ≠ T.2.2.2 t r 0))) r ?_ ?_ 0 (stp T t r) (Nat.zero_le _) ?_
  · intro f c hc
    unfold nws at h
    rw [← hc] at h
    show wX8_ways_66 _ _ _ _ _ _ _ _ _
    rw [wX8_ways_66]
    simp (disch := omega) only [fa_lit, nI_ltI, nI_leI, nI_eq, nI_add, pk_mul, nI_clamp, vp_in_nI, l_uk, l_n1, l_n1e, l_n1e2, l_n1l, l_n1l2, l_n1l3, not_true_eq_false, not_false_eq_true, true_implies, false_implies, true_and, and_true, and_self, forall_eq, bI_t, bI_f, Bool.false_eq_true, or_true, true_or, or_false, false_or, s1_ltx, if_true, if_false, Nat.add_zero, Nat.zero_add,  d_leF, d_leT, d_ltF, d_ltT, d_eqF, d_eqT]
    exact h
  · intro f j c hj hc hk
    have es : decide (∀ k, k < j + 1 → stp T t k = true → T.2.2.2 t k 0 ≠ T.2.2.2 t r 0) = (decide (∀ k, k < j → stp T t k = true → T.2.2.2 t k 0 ≠ T.2.2.2 t r 0) && !(stp T t j && decide (T.2.2.2 t j 0 = T.2.2.2 t r 0))) := by
      cases e : (stp T t j && decide (T.2.2.2 t j 0 = T.2.2.2 t r 0))
      · rw [Bool.not_false, Bool.and_true]
        refine decide_eq_decide.mpr ⟨fun z k hk => z k (by omega), fun z k hk hA2 hv => ?_⟩
        by_cases e3 : k = j
        · subst e3
          rw [hA2, decide_eq_true hv] at e
          cases e
        · exact z k (by omega) hA2 hv
      · have e2 := (Bool.and_eq_true _ _).mp e
        rw [Bool.not_true, Bool.and_false]
        exact decide_eq_false (fun z => z j (by omega) e2.1 (of_decide_eq_true e2.2))
    have nx : wX8_ways_66 (nI t) K post f x3 (nI r) (bI (c && !(stp T t j && decide (T.2.2.2 t j 0 = T.2.2.2 t r 0)))) (nI (j + 1)) I := hk _ (by rw [es, hc, Bool.and_assoc])
    show wX8_ways_66 _ _ _ _ _ _ _ _ _
    rw [wX8_ways_66]
    cases c
    · simp (disch := omega) only [fa_lit, nI_ltI, nI_leI, nI_eq, nI_add, pk_mul, nI_clamp, vp_in_nI, l_uk, l_n1, l_n1e, l_n1e2, l_n1l, l_n1l2, l_n1l3, not_true_eq_false, not_false_eq_true, true_implies, false_implies, true_and, and_true, and_self, forall_eq, bI_t, bI_f, Bool.false_eq_true, or_true, true_or, or_false, false_or, s1_ltx, if_true, if_false, Nat.add_zero, Nat.zero_add,  d_leF, d_leT, d_ltF, d_ltT, d_eqF, d_eqT]
      exact nx
    · simp (disch := omega) only [fa_lit, nI_ltI, nI_leI, nI_eq, nI_add, pk_mul, nI_clamp, vp_in_nI, l_uk, l_n1, l_n1e, l_n1e2, l_n1l, l_n1l2, l_n1l3, not_true_eq_false, not_false_eq_true, true_implies, false_implies, true_and, and_true, and_self, forall_eq, bI_t, bI_f, Bool.false_eq_true, or_true, true_or, or_false, false_or, s1_ltx, if_true, if_false, Nat.add_zero, Nat.zero_add,  d_leF, d_leT, d_ltF, d_ltT, d_eqF, d_eqT]
      refine m_isKnown hT ht (by omega) ?_
      cases e : stp T t j
      · rw [e] at nx
        simp (disch := omega) only [fa_lit, nI_ltI, nI_leI, nI_eq, nI_add, pk_mul, nI_clamp, vp_in_nI, l_uk, l_n1, l_n1e, l_n1e2, l_n1l, l_n1l2, l_n1l3, not_true_eq_false, not_false_eq_true, true_implies, false_implies, true_and, and_true, and_self, forall_eq, bI_t, bI_f, Bool.false_eq_true, or_true, true_or, or_false, false_or, s1_ltx, if_true, if_false, Nat.add_zero, Nat.zero_add,  d_leF, d_leT, d_ltF, d_ltT, d_eqF, d_eqT]
        exact nx
      · rw [e] at nx
        simp (disch := omega) only [fa_lit, nI_ltI, nI_leI, nI_eq, nI_add, pk_mul, nI_clamp, vp_in_nI, l_uk, l_n1, l_n1e, l_n1e2, l_n1l, l_n1l2, l_n1l3, not_true_eq_false, not_false_eq_true, true_implies, false_implies, true_and, and_true, and_self, forall_eq, bI_t, bI_f, Bool.false_eq_true, or_true, true_or, or_false, false_or, s1_ltx, if_true, if_false, Nat.add_zero, Nat.zero_add,  d_leF, d_leT, d_ltF, d_ltT, d_eqF, d_eqT]
        refine m_at (c := 0) hT ht (by omega) (by omega) (m_at (c := 0) hT ht (by omega) (by omega) ?_)
        refine ⟨fun e3 => ?_, fun e3 => ?_⟩
        · rw [decide_eq_true e3] at nx
          exact nx
        · rw [decide_eq_false e3] at nx
          exact nx
  · rw [decide_eq_true (show ∀ k, k < 0 → stp T t k = true → T.2.2.2 t k 0 ≠ T.2.2.2 t r 0 from fun k hk => absurd hk (Nat.not_lt_zero k)), Bool.and_true]
theorem m_ways_43 {I : QI} {T : QT} (hT : Tm I T) (hw : Tw T) {t : Nat} (ht : t < 4) {post : Int32 → QI → Prop} (h : ∀ I2 : QI, (∀ b, b ≠ 78 → I2 b = I b) → post (nI (ways T t)) I2) : ∃ f, wX8_ways_43 (nI t) post f 0 0 I := by
  have m10 := (hw.2 t ht).2.1
  refine lp (fun f i (s : Nat × QI) => wX8_ways_43 (nI t) post f (nI s.1) (nI i) s.2) (fun i s => (∀ b, b ≠ 78 → s.2 b = I b) ∧ s.1 = sm (fun r => if nws T t r then ends T t r else 0) i) (T.2.2.1 t) ?_ ?_ 0 (0, I) (Nat.zero_le _) ⟨fun _ _ => rfl, rfl⟩
  · rintro f ⟨n, I2⟩ ⟨hF, hn⟩
    replace hF : ∀ b, b ≠ 78 → I2 b = I b := hF
    have := h I2 hF
    unfold ways at this
    rw [← hn] at this
    show wX8_ways_43 _ _ _ _ _ _
    rw [wX8_ways_43]
    simp (disch := omega) only [((Tm_78 hT hF).t ht).2, fa_lit, nI_ltI, nI_leI, nI_eq, nI_add, pk_mul, nI_clamp, vp_in_nI, l_uk, l_n1, l_n1e, l_n1e2, l_n1l, l_n1l2, l_n1l3, not_true_eq_false, not_false_eq_true, true_implies, false_implies, true_and, and_true, and_self, forall_eq, bI_t, bI_f, Bool.false_eq_true, or_true, true_or, or_false, false_or, s1_ltx, if_true, if_false, Nat.add_zero, Nat.zero_add,  d_leF, d_leT, d_ltF, d_ltT, d_eqF, d_eqT]
    exact this
  · rintro f i ⟨n, I2⟩ hi ⟨hF, hn⟩ hk
    replace hF : ∀ b, b ≠ 78 → I2 b = I b := hF
    replace hn : n = sm (fun r => if nws T t r then ends T t r else 0) i := hn
    have hT2 := Tm_78 hT hF
    show wX8_ways_43 _ _ _ _ _ _
    rw [wX8_ways_43]
    simp (disch := omega) only [(hT2.t ht).2, fa_lit, nI_ltI, nI_leI, nI_eq, nI_add, pk_mul, nI_clamp, vp_in_nI, l_uk, l_n1, l_n1e, l_n1e2, l_n1l, l_n1l2, l_n1l3, not_true_eq_false, not_false_eq_true, true_implies, false_implies, true_and, and_true, and_self, forall_eq, bI_t, bI_f, Bool.false_eq_true, or_true, true_or, or_false, false_or, s1_ltx, if_true, if_false, Nat.add_zero, Nat.zero_add,  d_leF, d_leT, d_ltF, d_ltT, d_eqF, d_eqT]
    refine m_isKnown hT2 ht (by omega) ?_
    refine m_ways_66 hT2 ht (by omega) ?_
    cases e : nws T t i
    · simp (disch := omega) only [fa_lit, nI_ltI, nI_leI, nI_eq, nI_add, pk_mul, nI_clamp, vp_in_nI, l_uk, l_n1, l_n1e, l_n1e2, l_n1l, l_n1l2, l_n1l3, not_true_eq_false, not_false_eq_true, true_implies, false_implies, true_and, and_true, and_self, forall_eq, bI_t, bI_f, Bool.false_eq_true, or_true, true_or, or_false, false_or, s1_ltx, if_true, if_false, Nat.add_zero, Nat.zero_add,  d_leF, d_leT, d_ltF, d_ltT, d_eqF, d_eqT]
      exact hk (n, I2) ⟨hF, by rw [sm_s, e, ← hn]; rfl⟩
    · simp (disch := omega) only [fa_lit, nI_ltI, nI_leI, nI_eq, nI_add, pk_mul, nI_clamp, vp_in_nI, l_uk, l_n1, l_n1e, l_n1e2, l_n1l, l_n1l2, l_n1l3, not_true_eq_false, not_false_eq_true, true_implies, false_implies, true_and, and_true, and_self, forall_eq, bI_t, bI_f, Bool.false_eq_true, or_true, true_or, or_false, false_or, s1_ltx, if_true, if_false, Nat.add_zero, Nat.zero_add,  d_leF, d_leT, d_ltF, d_ltT, d_eqF, d_eqT]
      refine m_reached hT2 hw ht hi (fun I3 hF3 => ?_)
      simp (disch := omega) only [fa_lit, nI_ltI, nI_leI, nI_eq, nI_add, pk_mul, nI_clamp, vp_in_nI, l_uk, l_n1, l_n1e, l_n1e2, l_n1l, l_n1l2, l_n1l3, not_true_eq_false, not_false_eq_true, true_implies, false_implies, true_and, and_true, and_self, forall_eq, bI_t, bI_f, Bool.false_eq_true, or_true, true_or, or_false, false_or, s1_ltx, if_true, if_false, Nat.add_zero, Nat.zero_add,  d_leF, d_leT, d_ltF, d_ltT, d_eqF, d_eqT]
      exact hk (n + ends T t i, I3) ⟨fun b hb => (hF3 b hb).trans (hF b hb), by rw [sm_s, e, ← hn]; rfl⟩
