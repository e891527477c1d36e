/-! pure: ways, in the class -/
theorem ct_full {p : Nat → Bool} : ∀ {n : Nat}, n ≤ ct p n → ∀ k, k < n → p k = true
  | 0, _, k, hk => absurd hk (Nat.not_lt_zero k)
  | n + 1, h, k, hk => by
    have h0 := ct_le p n
    rw [ct_s] at h
    have hp : p n = true := by
      cases e : p n
      · rw [e] at h
        simp only [Bool.false_eq_true, if_false] at h
        omega
      · rfl
    rw [hp] at h
    by_cases e : k = n
    · subst e; exact hp
    · exact ct_full (n := n) (by simp only [if_true] at h; omega) k (by omega)
theorem ct_set {p : Nat → Bool} {r : Nat} : ∀ {n : Nat}, r < n → p r = false → ct (fun k => if k = r then true else p k) n = ct p n + 1
  | 0, h, _ => absurd h (Nat.not_lt_zero r)
  | n + 1, h, hp => by
    rw [ct_s, ct_s]
    by_cases e : r = n
    · subst e
      rw [ct_cong (q := p) (fun k hk => if_neg (by omega)), hp]
      simp
    · rw [ct_set (n := n) (by omega) hp, if_neg (show ¬ n = r by omega)]
      omega
theorem Tc_r {I I2 : QI} {T : QT} {t : Nat} (hT : Tc I T) (h : ∀ b, b ≠ 5 + 3 * t → I2 b = I b) : Tc I2 T := by
  refine ⟨by rw [h 1 (by omega)]; exact hT.1, fun u hu => ?_⟩
  rw [h (3 + 3 * u) (by omega), h (4 + 3 * u) (by omega)]
  exact hT.2 u hu
def lf (T : QT) (t : Nat) (a : Int32) (r : Nat) : Prop := ∀ X : Nat → Prop, (∀ q, q < T.2.2.1 t → stp T t q = true → T.2.2.2 t q 0 = a → X q) → (∀ k q, k < T.2.2.1 t → q < T.2.2.1 t → X k → stp T t q = true → T.2.2.2 t k 1 = T.2.2.2 t q 0 → X q) → X r
noncomputable def Ac (T : QT) (t : Nat) (a : Int32) (r : Nat) : Bool := @decide (lf T t a r) (Classical.propDecidable _)
/-- sound, with the base, closed -/
def rS (T : QT) (t : Nat) (a : Int32) (A : Nat → Bool) : Prop := ∀ r, r < T.2.2.1 t → A r = true → lf T t a r
def rB (T : QT) (t : Nat) (a : Int32) (A : Nat → Bool) : Prop := ∀ q, q < T.2.2.1 t → stp T t q = true → T.2.2.2 t q 0 = a → A q = true
def rCl (T : QT) (t : Nat) (A : Nat → Bool) (q : Nat) : Prop := ∀ k, k < T.2.2.1 t → A k = true → stp T t q = true → T.2.2.2 t k 1 = T.2.2.2 t q 0 → A q = true
theorem Ac_of {T : QT} {t : Nat} {a : Int32} {A : Nat → Bool} (h1 : rS T t a A) (h2 : rB T t a A) (h3 : ∀ q, q < T.2.2.1 t → rCl T t A q) : ∀ r, r < T.2.2.1 t → A r = Ac T t a r := by
  intro r hr
  unfold Ac
  cases e : A r
  · refine (@decide_eq_false _ (Classical.propDecidable _) (fun z => ?_)).symm
    have := z (fun q => q < T.2.2.1 t → A q = true) (fun q hq hs hv _ => h2 q hq hs hv) (fun k q hk hq hX hs hv _ => h3 q hq k hk (hX hk) hs hv) hr
    rw [e] at this
    cases this
  · exact (@decide_eq_true _ (Classical.propDecidable _) (h1 r hr e)).symm
def rE (T : QT) (t : Nat) (A : Nat → Bool) (n : Nat) (x : Int32) : Bool := !decide (∀ k, k < n → A k = true → T.2.2.2 t k 1 ≠ x)
theorem p_isReachedEnd {I : QI} {T : QT} (hT : Tc I T) (hw : Tw T) {t n : Nat} (ht : t < 4) (h1w : 1 < T.2.1 t) {A : Nat → Bool} (hA : ∀ k, k < T.2.2.1 t → I (5 + 3 * t) k = bI (A k)) (hn : n ≤ T.2.2.1 t) {x : Int32} {post : Int32 → Prop} (h : post (bI (rE T t A n x))) : wX5_isReachedEnd t x (nI n) I post := by
  obtain ⟨h1, h2, h3⟩ := hT.2 t ht
  obtain ⟨w1, w2, w3, w4⟩ := hw.2 t ht
  unfold wX5_isReachedEnd
  refine lp (fun f i (_ : Unit) => wX5_isReachedEnd_2 t x (nI n) I post f (nI i)) (fun i _ => ∀ k, k < i → A k = true → T.2.2.2 t k 1 ≠ x) n ?_ ?_ 0 () (Nat.zero_le _) (fun c hc => absurd hc (Nat.not_lt_zero c))
  · intro f _ hI
    have e2 : rE T t A n x = false := by unfold rE; rw [decide_eq_true hI]; rfl
    rw [e2] at h
    show wX5_isReachedEnd_2 _ _ _ _ _ _ _
    rw [wX5_isReachedEnd_2]
    simp (disch := omega) only [fa_lit, nI_ltI, nI_leI, nI_eq, nI_add, pk_mul, nI_clamp, vp_in_nI, l_uk, l_n1, l_n1e, l_n1e2, l_n1l, l_n1l2, l_n1l3, not_true_eq_false, not_false_eq_true, true_implies, false_implies, true_and, and_true, and_self, forall_eq, bI_t, bI_f, Bool.false_eq_true, or_true, true_or, or_false, false_or, s1_ltx,  d_leF, d_leT, d_ltF, d_ltT, d_eqF, d_eqT]
    exact h
  · intro f i _ hi hI hk
    show wX5_isReachedEnd_2 _ _ _ _ _ _ _
    rw [wX5_isReachedEnd_2]
    simp (disch := omega) only [fa_lit, nI_ltI, nI_leI, nI_eq, nI_add, pk_mul, nI_clamp, vp_in_nI, l_uk, l_n1, l_n1e, l_n1e2, l_n1l, l_n1l2, l_n1l3, not_true_eq_false, not_false_eq_true, true_implies, false_implies, true_and, and_true, and_self, forall_eq, bI_t, bI_f, Bool.false_eq_true, or_true, true_or, or_false, false_or, s1_ltx,  d_leF, d_leT, d_ltF, d_ltT, d_eqF, d_eqT]
    rw [hA i (by omega)]
    cases e : A i
    · simp (disch := omega) only [fa_lit, nI_ltI, nI_leI, nI_eq, nI_add, pk_mul, nI_clamp, vp_in_nI, l_uk, l_n1, l_n1e, l_n1e2, l_n1l, l_n1l2, l_n1l3, not_true_eq_false, not_false_eq_true, true_implies, false_implies, true_and, and_true, and_self, forall_eq, bI_t, bI_f, Bool.false_eq_true, or_true, true_or, or_false, false_or, s1_ltx,  d_leF, d_leT, d_ltF, d_ltT, d_eqF, d_eqT]
      refine hk () (fun c hc hs => ?_)
      by_cases e2 : c = i
      · subst e2; rw [e] at hs; cases hs
      · exact hI c (by omega) hs
    · simp (disch := omega) only [fa_lit, nI_ltI, nI_leI, nI_eq, nI_add, pk_mul, nI_clamp, vp_in_nI, l_uk, l_n1, l_n1e, l_n1e2, l_n1l, l_n1l2, l_n1l3, not_true_eq_false, not_false_eq_true, true_implies, false_implies, true_and, and_true, and_self, forall_eq, bI_t, bI_f, Bool.false_eq_true, or_true, true_or, or_false, false_or, s1_ltx,  d_leF, d_leT, d_ltF, d_ltT, d_eqF, d_eqT]
      refine p_value (c := 1) hT hw ht (by omega) h1w ?_
      refine ⟨fun e2 => ?_, fun e2 => ?_⟩
      · refine hk () (fun c hc hs => ?_)
        by_cases e3 : c = i
        · subst e3; exact e2
        · exact hI c (by omega) hs
      · have e3 : rE T t A n x = true := by unfold rE; rw [decide_eq_false (fun z => z i hi e e2)]; rfl
        rw [e3] at h
        exact h
theorem p_countReachedEnds {I : QI} {T : QT} (hT : Tc I T) (hw : Tw T) {t : Nat} (ht : t < 4) (h1w : 1 < T.2.1 t) {A : Nat → Bool} (hA : ∀ k, k < T.2.2.1 t → I (5 + 3 * t) k = bI (A k)) {post : Int32 → Prop} (h : post (nI (ct (fun r => A r && !rE T t A r (T.2.2.2 t r 1)) (T.2.2.1 t)))) : wX5_countReachedEnds t I post := by
  obtain ⟨h1, h2, h3⟩ := hT.2 t ht
  obtain ⟨w1, w2, w3, w4⟩ := hw.2 t ht
  unfold wX5_countReachedEnds
  refine lp (fun f i (n : Nat) => wX5_countReachedEnds_4 t I post f (nI n) (nI i)) (fun i n => n = ct (fun r => A r && !rE T t A r (T.2.2.2 t r 1)) i) (T.2.2.1 t) ?_ ?_ 0 0 (Nat.zero_le _) rfl
  · intro f n hI
    show wX5_countReachedEnds_4 _ _ _ _ _ _
    rw [wX5_countReachedEnds_4]
    simp (disch := omega) only [h2, fa_lit, nI_ltI, nI_leI, nI_eq, nI_add, pk_mul, nI_clamp, vp_in_nI, l_uk, l_n1, l_n1e, l_n1e2, l_n1l, l_n1l2, l_n1l3, not_true_eq_false, not_false_eq_true, true_implies, false_implies, true_and, and_true, and_self, forall_eq, bI_t, bI_f, Bool.false_eq_true, or_true, true_or, or_false, false_or, s1_ltx,  d_leF, d_leT, d_ltF, d_ltT, d_eqF, d_eqT]
    rw [hI]
    exact h
  · intro f i n hi hI hk
    show wX5_countReachedEnds_4 _ _ _ _ _ _
    rw [wX5_countReachedEnds_4]
    simp (disch := omega) only [h2, fa_lit, nI_ltI, nI_leI, nI_eq, nI_add, pk_mul, nI_clamp, vp_in_nI, l_uk, l_n1, l_n1e, l_n1e2, l_n1l, l_n1l2, l_n1l3, not_true_eq_false, not_false_eq_true, true_implies, false_implies, true_and, and_true, and_self, forall_eq, bI_t, bI_f, Bool.false_eq_true, or_true, true_or, or_false, false_or, s1_ltx,  d_leF, d_leT, d_ltF, d_ltT, d_eqF, d_eqT]
    rw [hA i hi]
    cases e : A i
    · simp (disch := omega) only [fa_lit, nI_ltI, nI_leI, nI_eq, nI_add, pk_mul, nI_clamp, vp_in_nI, l_uk, l_n1, l_n1e, l_n1e2, l_n1l, l_n1l2, l_n1l3, not_true_eq_false, not_false_eq_true, true_implies, false_implies, true_and, and_true, and_self, forall_eq, bI_t, bI_f, Bool.false_eq_true, or_true, true_or, or_false, false_or, s1_ltx,  d_leF, d_leT, d_ltF, d_ltT, d_eqF, d_eqT]
      exact hk n (by rw [hI, ct_s, e]; rfl)
    · simp (disch := omega) only [fa_lit, nI_ltI, nI_leI, nI_eq, nI_add, pk_mul, nI_clamp, vp_in_nI, l_uk, l_n1, l_n1e, l_n1e2, l_n1l, l_n1l2, l_n1l3, not_true_eq_false, not_false_eq_true, true_implies, false_implies, true_and, and_true, and_self, forall_eq, bI_t, bI_f, Bool.false_eq_true, or_true, true_or, or_false, false_or, s1_ltx,  d_leF, d_leT, d_ltF, d_ltT, d_eqF, d_eqT]
      refine p_value (c := 1) hT hw ht (by omega) h1w ?_
      refine p_isReachedEnd hT hw ht h1w hA (by omega) ?_
      cases e2 : rE T t A i (T.2.2.2 t i 1)
      · simp (disch := omega) only [fa_lit, nI_ltI, nI_leI, nI_eq, nI_add, pk_mul, nI_clamp, vp_in_nI, l_uk, l_n1, l_n1e, l_n1e2, l_n1l, l_n1l2, l_n1l3, not_true_eq_false, not_false_eq_true, true_implies, false_implies, true_and, and_true, and_self, forall_eq, bI_t, bI_f, Bool.false_eq_true, or_true, true_or, or_false, false_or, s1_ltx,  d_leF, d_leT, d_ltF, d_ltT, d_eqF, d_eqT]
        exact hk (n + 1) (by rw [hI, ct_s, e, e2]; rfl)
      · simp (disch := omega) only [fa_lit, nI_ltI, nI_leI, nI_eq, nI_add, pk_mul, nI_clamp, vp_in_nI, l_uk, l_n1, l_n1e, l_n1e2, l_n1l, l_n1l2, l_n1l3, not_true_eq_false, not_false_eq_true, true_implies, false_implies, true_and, and_true, and_self, forall_eq, bI_t, bI_f, Bool.false_eq_true, or_true, true_or, or_false, false_or, s1_ltx,  d_leF, d_leT, d_ltF, d_ltT, d_eqF, d_eqT]
        exact hk n (by rw [hI, ct_s, e, e2]; rfl)
theorem rS_step {T : QT} {t : Nat} {a : Int32} {A : Nat → Bool} (h : rS T t a A) {k q : Nat} (hk : k < T.2.2.1 t) (hq : q < T.2.2.1 t) (hA : A k = true) (hs : stp T t q = true) (hv : T.2.2.2 t k 1 = T.2.2.2 t q 0) : lf T t a q := fun X hb hc => hc k q hk hq (h k hk hA X hb hc) hs hv
theorem ct_mono {p q : Nat → Bool} : ∀ {n : Nat}, (∀ k, k < n → p k = true → q k = true) → ct p n ≤ ct q n
  | 0, _ => Nat.le_refl 0
  | n + 1, h => by
    rw [ct_s, ct_s]
    have h1 := ct_mono (n := n) (fun k hk => h k (by omega))
    cases e : p n
    · simp only [Bool.false_eq_true, if_false]
      omega
    · rw [h n (by omega) e]
      simp only [if_true]
      omega
theorem rE_f {T : QT} {t n : Nat} {A : Nat → Bool} {x : Int32} (h : rE T t A n x = false) : ∀ k, k < n → A k = true → T.2.2.2 t k 1 ≠ x := by
  unfold rE at h
  exact of_decide_eq_true (by simpa using h)
theorem rE_t {T : QT} {t n : Nat} {A : Nat → Bool} {x : Int32} (h : rE T t A n x = true) : ∃ k, k < n ∧ A k = true ∧ T.2.2.2 t k 1 = x := by
  apply Classical.byContradiction
  intro hc
  have : rE T t A n x = false := by
    unfold rE
    have hd : decide (∀ k, k < n → A k = true → T.2.2.2 t k 1 ≠ x) = true := decide_eq_true (fun k hk hA e => hc ⟨k, hk, hA, e⟩)
    rw [hd]
    rfl
  rw [this] at h
  cases h
theorem fr_u2 {I I2 : QI} {p i : Nat} {x : Int32} (h : ∀ b, b ≠ p → I2 b = I b) : ∀ b, b ≠ p → q_u2 I2 p i x b = I b := fun b hb => (nr_u2 hb).trans (h b hb)
theorem ar_u2 {I2 : QI} {p i m : Nat} {A : Nat → Bool} {x : Bool} (h : ∀ k, k < m → I2 p k = bI (A k)) : ∀ k, k < m → q_u2 I2 p i (bI x) p k = bI (if k = i then x else A k) := by
  intro k hk
  by_cases e : k = i
  · subst e
    rw [q_u2_s, if_pos rfl]
  · rw [q_u2_j I2 p _ e, if_neg e]
    exact h k hk
theorem ar_same {I2 : QI} {p i m : Nat} {A : Nat → Bool} {x : Bool} (h : ∀ k, k < m → I2 p k = bI (A k)) (hx : A i = x) : ∀ k, k < m → q_u2 I2 p i (bI x) p k = bI (A k) := by
  intro k hk
  rw [ar_u2 h k hk]
  by_cases e : k = i
  · subst e
    rw [if_pos rfl, hx]
  · rw [if_neg e]
theorem p_spread {I : QI} {T : QT} (hT : Tc I T) (hw : Tw T) {t : Nat} (ht : t < 4) (h1w : 1 < T.2.1 t) {a : Int32} {post : QI → Prop} (h : ∀ I2 : QI, (∀ b, b ≠ 5 + 3 * t → I2 b = I b) → (∀ k, k < T.2.2.1 t → I2 (5 + 3 * t) k = bI (Ac T t a k)) → post I2) : wX5_spread t a I post := by
  obtain ⟨w1, w2, w3, w4⟩ := hw.2 t ht
  unfold wX5_spread
  refine lp (fun f i (I2 : QI) => wX5_spread_2 t a (fun I9 => (∃ f : Nat, wX5_spread_53 t a post f 0 I9)) post f (nI i) I2) (fun i I2 => (∀ b, b ≠ 5 + 3 * t → I2 b = I b) ∧ ∀ k, k < i → I2 (5 + 3 * t) k = bI (stp T t k && decide (T.2.2.2 t k 0 = a))) (T.2.2.1 t) ?_ ?_ 0 I (Nat.zero_le _) ⟨fun _ _ => rfl, fun c hc => absurd hc (Nat.not_lt_zero c)⟩
  · rintro f I2 ⟨hF, hA⟩
    obtain ⟨h1, h2, h3⟩ := (Tc_r hT hF).2 t ht
    show wX5_spread_2 _ _ _ _ _ _ _
    rw [wX5_spread_2]
    simp (disch := omega) only [h2, fa_lit, nI_ltI, nI_leI, nI_eq, nI_add, pk_mul, nI_clamp, vp_in_nI, l_uk, l_n1, l_n1e, l_n1e2, l_n1l, l_n1l2, l_n1l3, not_true_eq_false, not_false_eq_true, true_implies, false_implies, true_and, and_true, and_self, forall_eq, bI_t, bI_f, Bool.false_eq_true, or_true, true_or, or_false, false_or, s1_ltx,  d_leF, d_leT, d_ltF, d_ltT, d_eqF, d_eqT]
    refine lp (fun f j (I3 : QI) => wX5_spread_53 t a post f (nI j) I3) (fun j I3 => (∀ b, b ≠ 5 + 3 * t → I3 b = I b) ∧ ∃ A : Nat → Bool, (∀ k, k < T.2.2.1 t → I3 (5 + 3 * t) k = bI (A k)) ∧ rS T t a A ∧ rB T t a A ∧ ((∀ q, q < T.2.2.1 t → rCl T t A q) ∨ j ≤ ct A (T.2.2.1 t))) (T.2.2.1 t) ?_ ?_ 0 I2 (Nat.zero_le _) ⟨hF, fun k => stp T t k && decide (T.2.2.2 t k 0 = a), hA, fun r hr e => ?_, fun q hq e1 e2 => ?_, Or.inr (Nat.zero_le _)⟩
    · rintro f I3 ⟨hF3, A, hA3, hs3, hb3, hc3⟩
      obtain ⟨h1, h2, h3⟩ := (Tc_r hT hF3).2 t ht
      show wX5_spread_53 _ _ _ _ _ _
      rw [wX5_spread_53]
      simp (disch := omega) only [h2, fa_lit, nI_ltI, nI_leI, nI_eq, nI_add, pk_mul, nI_clamp, vp_in_nI, l_uk, l_n1, l_n1e, l_n1e2, l_n1l, l_n1l2, l_n1l3, not_true_eq_false, not_false_eq_true, true_implies, false_implies, true_and, and_true, and_self, forall_eq, bI_t, bI_f, Bool.false_eq_true, or_true, true_or, or_false, false_or, s1_ltx,  d_leF, d_leT, d_ltF, d_ltT, d_eqF, d_eqT]
      refine h I3 hF3 (fun k hk => ?_)
      rw [hA3 k hk, Ac_of hs3 hb3 (fun q hq => ?_) k hk]
      rcases hc3 with hc3 | hc3
      · exact hc3 q hq
      · exact fun _ _ _ _ _ => ct_full hc3 q hq
    · rintro f j I3 hj ⟨hF3, A0, hA3, hs3, hb3, hc3⟩ hk
      obtain ⟨h1, h2, h3⟩ := (Tc_r hT hF3).2 t ht
      show wX5_spread_53 _ _ _ _ _ _
      rw [wX5_spread_53]
      simp (disch := omega) only [h2, fa_lit, nI_ltI, nI_leI, nI_eq, nI_add, pk_mul, nI_clamp, vp_in_nI, l_uk, l_n1, l_n1e, l_n1e2, l_n1l, l_n1l2, l_n1l3, not_true_eq_false, not_false_eq_true, true_implies, false_implies, true_and, and_true, and_self, forall_eq, bI_t, bI_f, Bool.false_eq_true, or_true, true_or, or_false, false_or, s1_ltx,  d_leF, d_leT, d_ltF, d_ltT, d_eqF, d_eqT]
      refine lp (fun g i (I4 : QI) => wX5_spread_63 t a (fun u21 I22 => wX5_spread_53 t a post f (u21 + nI 1) I22) post g (nI j) (nI i) I4) (fun i I4 => (∀ b, b ≠ 5 + 3 * t → I4 b = I b) ∧ ∃ A : Nat → Bool, (∀ k, k < T.2.2.1 t → I4 (5 + 3 * t) k = bI (A k)) ∧ rS T t a A ∧ rB T t a A ∧ (((∀ k, k < T.2.2.1 t → A k = A0 k) ∧ ∀ q, q < i → rCl T t A0 q) ∨ ct A0 (T.2.2.1 t) + 1 ≤ ct A (T.2.2.1 t))) (T.2.2.1 t) ?_ ?_ 0 I3 (Nat.zero_le _) ⟨hF3, A0, hA3, hs3, hb3, Or.inl ⟨fun _ _ => rfl, fun c hc => absurd hc (Nat.not_lt_zero c)⟩⟩
      · rintro g I4 ⟨hF4, A, hA4, hs4, hb4, hc4⟩
        obtain ⟨h1, h2, h3⟩ := (Tc_r hT hF4).2 t ht
        show wX5_spread_63 _ _ _ _ _ _ _ _
        rw [wX5_spread_63]
        simp (disch := omega) only [h2, fa_lit, nI_ltI, nI_leI, nI_eq, nI_add, pk_mul, nI_clamp, vp_in_nI, l_uk, l_n1, l_n1e, l_n1e2, l_n1l, l_n1l2, l_n1l3, not_true_eq_false, not_false_eq_true, true_implies, false_implies, true_and, and_true, and_self, forall_eq, bI_t, bI_f, Bool.false_eq_true, or_true, true_or, or_false, false_or, s1_ltx,  d_leF, d_leT, d_ltF, d_ltT, d_eqF, d_eqT]
        refine hk I4 ⟨hF4, A, hA4, hs4, hb4, ?_⟩
        rcases hc4 with ⟨e1, e2⟩ | hc4
        · refine Or.inl (fun q hq k hk2 hAk hsq hv => ?_)
          rw [e1 q hq]
          exact e2 q hq k hk2 ((e1 k hk2).symm.trans hAk) hsq hv
        · rcases hc3 with hc3 | hc3
          · have e3 : ct A (T.2.2.1 t) ≤ ct A0 (T.2.2.1 t) := ct_mono (fun k hk2 e => by
              rw [Ac_of hs3 hb3 hc3 k hk2]
              exact @decide_eq_true _ (Classical.propDecidable _) (hs4 k hk2 e))
            exact Or.inr (by omega)
          · exact Or.inr (by omega)
      · rintro g i I4 hi ⟨hF4, A, hA4, hs4, hb4, hc4⟩ hk4
        obtain ⟨h1, h2, h3⟩ := (Tc_r hT hF4).2 t ht
        show wX5_spread_63 _ _ _ _ _ _ _ _
        rw [wX5_spread_63]
        simp (disch := omega) only [h2, fa_lit, nI_ltI, nI_leI, nI_eq, nI_add, pk_mul, nI_clamp, vp_in_nI, l_uk, l_n1, l_n1e, l_n1e2, l_n1l, l_n1l2, l_n1l3, not_true_eq_false, not_false_eq_true, true_implies, false_implies, true_and, and_true, and_self, forall_eq, bI_t, bI_f, Bool.false_eq_true, or_true, true_or, or_false, false_or, s1_ltx,  d_leF, d_leT, d_ltF, d_ltT, d_eqF, d_eqT]
        rw [hA4 i hi]
        cases e : A i
        · simp (disch := omega) only [fa_lit, nI_ltI, nI_leI, nI_eq, nI_add, pk_mul, nI_clamp, vp_in_nI, l_uk, l_n1, l_n1e, l_n1e2, l_n1l, l_n1l2, l_n1l3, not_true_eq_false, not_false_eq_true, true_implies, false_implies, true_and, and_true, and_self, forall_eq, bI_t, bI_f, Bool.false_eq_true, or_true, true_or, or_false, false_or, s1_ltx,  d_leF, d_leT, d_ltF, d_ltT, d_eqF, d_eqT]
          refine p_isStep (Tc_r hT hF4) hw ht h1w hi ?_
          cases es : stp T t i
          · simp (disch := omega) only [fa_lit, nI_ltI, nI_leI, nI_eq, nI_add, pk_mul, nI_clamp, vp_in_nI, l_uk, l_n1, l_n1e, l_n1e2, l_n1l, l_n1l2, l_n1l3, not_true_eq_false, not_false_eq_true, true_implies, false_implies, true_and, and_true, and_self, forall_eq, bI_t, bI_f, Bool.false_eq_true, or_true, true_or, or_false, false_or, s1_ltx,  d_leF, d_leT, d_ltF, d_ltT, d_eqF, d_eqT]
            refine hk4 _ ⟨fr_u2 hF4, A, ar_same (x := false) hA4 e, hs4, hb4, ?_⟩
            rcases hc4 with ⟨e1, e2⟩ | hc4
            · refine Or.inl ⟨e1, fun q hq => ?_⟩
              by_cases e3 : q = i
              · subst e3
                intro k _ _ hs _
                rw [es] at hs
                cases hs
              · exact e2 q (by omega)
            · exact Or.inr hc4
          · simp (disch := omega) only [fa_lit, nI_ltI, nI_leI, nI_eq, nI_add, pk_mul, nI_clamp, vp_in_nI, l_uk, l_n1, l_n1e, l_n1e2, l_n1l, l_n1l2, l_n1l3, not_true_eq_false, not_false_eq_true, true_implies, false_implies, true_and, and_true, and_self, forall_eq, bI_t, bI_f, Bool.false_eq_true, or_true, true_or, or_false, false_or, s1_ltx,  d_leF, d_leT, d_ltF, d_ltT, d_eqF, d_eqT]
            refine p_value (c := 0) (Tc_r hT hF4) hw ht hi (by omega) ?_
            refine p_isReachedEnd (Tc_r hT hF4) hw ht h1w hA4 (Nat.le_refl _) ?_
            cases er : rE T t A (T.2.2.1 t) (T.2.2.2 t i 0)
            · simp (disch := omega) only [fa_lit, nI_ltI, nI_leI, nI_eq, nI_add, pk_mul, nI_clamp, vp_in_nI, l_uk, l_n1, l_n1e, l_n1e2, l_n1l, l_n1l2, l_n1l3, not_true_eq_false, not_false_eq_true, true_implies, false_implies, true_and, and_true, and_self, forall_eq, bI_t, bI_f, Bool.false_eq_true, or_true, true_or, or_false, false_or, s1_ltx,  d_leF, d_leT, d_ltF, d_ltT, d_eqF, d_eqT]
              refine hk4 _ ⟨fr_u2 hF4, A, ar_same (x := false) hA4 e, hs4, hb4, ?_⟩
              rcases hc4 with ⟨e1, e2⟩ | hc4
              · refine Or.inl ⟨e1, fun q hq => ?_⟩
                by_cases e3 : q = i
                · subst e3
                  intro k hk2 hA0 _ hv
                  exact absurd hv (rE_f er k hk2 ((e1 k hk2).trans hA0))
                · exact e2 q (by omega)
              · exact Or.inr hc4
            · simp (disch := omega) only [fa_lit, nI_ltI, nI_leI, nI_eq, nI_add, pk_mul, nI_clamp, vp_in_nI, l_uk, l_n1, l_n1e, l_n1e2, l_n1l, l_n1l2, l_n1l3, not_true_eq_false, not_false_eq_true, true_implies, false_implies, true_and, and_true, and_self, forall_eq, bI_t, bI_f, Bool.false_eq_true, or_true, true_or, or_false, false_or, s1_ltx,  d_leF, d_leT, d_ltF, d_ltT, d_eqF, d_eqT]
              obtain ⟨k, hk2, hAk, hv⟩ := rE_t er
              refine hk4 _ ⟨fr_u2 hF4, fun k => if k = i then true else A k, ar_u2 (x := true) hA4, fun r hr hAr => ?_, fun q hq e1 e2 => ?_, Or.inr ?_⟩
              · by_cases e3 : r = i
                · subst e3
                  exact rS_step hs4 hk2 hr hAk es hv
                · exact hs4 r hr (by simpa [e3] using hAr)
              · by_cases e3 : q = i
                · simp [e3]
                · simp only [if_neg e3]
                  exact hb4 q hq e1 e2
              · rw [ct_set hi e]
                rcases hc4 with ⟨e1, e2⟩ | hc4
                · rw [ct_cong e1]
                  exact Nat.le_refl _
                · omega
        · simp (disch := omega) only [fa_lit, nI_ltI, nI_leI, nI_eq, nI_add, pk_mul, nI_clamp, vp_in_nI, l_uk, l_n1, l_n1e, l_n1e2, l_n1l, l_n1l2, l_n1l3, not_true_eq_false, not_false_eq_true, true_implies, false_implies, true_and, and_true, and_self, forall_eq, bI_t, bI_f, Bool.false_eq_true, or_true, true_or, or_false, false_or, s1_ltx,  d_leF, d_leT, d_ltF, d_ltT, d_eqF, d_eqT]
          refine hk4 _ ⟨fr_u2 hF4, A, ar_same (x := true) hA4 e, hs4, hb4, ?_⟩
          rcases hc4 with ⟨e1, e2⟩ | hc4
          · refine Or.inl ⟨e1, fun q hq => ?_⟩
            by_cases e3 : q = i
            · subst e3
              intro k _ _ _ _
              exact (e1 q hi).symm.trans e
            · exact e2 q (by omega)
          · exact Or.inr hc4
    · simp only [Bool.and_eq_true, decide_eq_true_eq] at e
      exact fun X hb _ => hb r hr e.1 e.2
    · simp only [e1, e2, decide_true, Bool.and_self]
  · rintro f i I2 hi ⟨hF, hA⟩ hk
    obtain ⟨h1, h2, h3⟩ := (Tc_r hT hF).2 t ht
    show wX5_spread_2 _ _ _ _ _ _ _
    rw [wX5_spread_2]
    simp (disch := omega) only [h2, fa_lit, nI_ltI, nI_leI, nI_eq, nI_add, pk_mul, nI_clamp, vp_in_nI, l_uk, l_n1, l_n1e, l_n1e2, l_n1l, l_n1l2, l_n1l3, not_true_eq_false, not_false_eq_true, true_implies, false_implies, true_and, and_true, and_self, forall_eq, bI_t, bI_f, Bool.false_eq_true, or_true, true_or, or_false, false_or, s1_ltx,  d_leF, d_leT, d_ltF, d_ltT, d_eqF, d_eqT]
    refine p_isStep (Tc_r hT hF) hw ht h1w hi ?_
    have hn : ∀ x : Bool, x = (stp T t i && decide (T.2.2.2 t i 0 = a)) → ∀ k, k < i + 1 → q_u2 I2 (5 + 3 * t) i (bI x) (5 + 3 * t) k = bI (stp T t k && decide (T.2.2.2 t k 0 = a)) := by
      intro x hx k hk2
      by_cases e3 : k = i
      · subst e3
        rw [q_u2_s, hx]
      · rw [q_u2_j I2 _ _ e3]
        exact hA k (by omega)
    cases es : stp T t i
    · simp (disch := omega) only [fa_lit, nI_ltI, nI_leI, nI_eq, nI_add, pk_mul, nI_clamp, vp_in_nI, l_uk, l_n1, l_n1e, l_n1e2, l_n1l, l_n1l2, l_n1l3, not_true_eq_false, not_false_eq_true, true_implies, false_implies, true_and, and_true, and_self, forall_eq, bI_t, bI_f, Bool.false_eq_true, or_true, true_or, or_false, false_or, s1_ltx,  d_leF, d_leT, d_ltF, d_ltT, d_eqF, d_eqT]
      exact hk _ ⟨fr_u2 hF, hn false (by rw [es]; rfl)⟩
    · simp (disch := omega) only [fa_lit, nI_ltI, nI_leI, nI_eq, nI_add, pk_mul, nI_clamp, vp_in_nI, l_uk, l_n1, l_n1e, l_n1e2, l_n1l, l_n1l2, l_n1l3, not_true_eq_false, not_false_eq_true, true_implies, false_implies, true_and, and_true, and_self, forall_eq, bI_t, bI_f, Bool.false_eq_true, or_true, true_or, or_false, false_or, s1_ltx,  d_leF, d_leT, d_ltF, d_ltT, d_eqF, d_eqT]
      refine p_value (c := 0) (Tc_r hT hF) hw ht hi (by omega) ?_
      refine ⟨fun e2 => hk _ ⟨fr_u2 hF, hn false (by rw [es, decide_eq_false e2]; rfl)⟩, fun e2 => hk _ ⟨fr_u2 hF, hn true (by rw [es, decide_eq_true e2]; rfl)⟩⟩
noncomputable def ends (T : QT) (t r : Nat) : Nat := ct (fun q => Ac T t (T.2.2.2 t r 0) q && !rE T t (Ac T t (T.2.2.2 t r 0)) q (T.2.2.2 t q 1)) (T.2.2.1 t)
noncomputable def ways (T : QT) (t : Nat) : Nat := sm (fun r => if nws T t r then ends T t r else 0) (T.2.2.1 t)
theorem p_pathPairs {I : QI} {T : QT} (hT : Tc I T) (hw : Tw T) {t : Nat} (ht : t < 4) (h1w : 1 < T.2.1 t) {post : Int32 → QI → Prop} (h : ∀ I2 : QI, (∀ b, b ≠ 5 + 3 * t → I2 b = I b) → post (nI (ways T t)) I2) : wX5_pathPairs t I post := by
  unfold wX5_pathPairs
  refine lp (fun f i (s : Nat × QI) => wX5_pathPairs_4 t post f (nI s.1) (nI i) s.2) (fun i s => (∀ b, b ≠ 5 + 3 * t → s.2 b = I b) ∧ s.1 = sm (fun r => if nws T t r then ends T t r else 0) i) (T.2.2.1 t) ?_ ?_ 0 (0, I) (Nat.zero_le _) ⟨fun _ _ => rfl, rfl⟩
  · rintro f ⟨n, I2⟩ ⟨hF, hn⟩
    replace hF : ∀ b, b ≠ 5 + 3 * t → I2 b = I b := hF
    obtain ⟨h1, h2, h3⟩ := (Tc_r hT hF).2 t ht
    obtain ⟨w1, w2, w3, w4⟩ := hw.2 t ht
    show wX5_pathPairs_4 _ _ _ _ _ _
    rw [wX5_pathPairs_4]
    simp (disch := omega) only [h2, fa_lit, nI_ltI, nI_leI, nI_eq, nI_add, pk_mul, nI_clamp, vp_in_nI, l_uk, l_n1, l_n1e, l_n1e2, l_n1l, l_n1l2, l_n1l3, not_true_eq_false, not_false_eq_true, true_implies, false_implies, true_and, and_true, and_self, forall_eq, bI_t, bI_f, Bool.false_eq_true, or_true, true_or, or_false, false_or, s1_ltx,  d_leF, d_leT, d_ltF, d_ltT, d_eqF, d_eqT]
    have := h I2 hF
    unfold ways at this
    rw [← hn] at this
    exact this
  · rintro f i ⟨n, I2⟩ hi ⟨hF, hn⟩ hk
    replace hF : ∀ b, b ≠ 5 + 3 * t → I2 b = I b := hF
    obtain ⟨h1, h2, h3⟩ := (Tc_r hT hF).2 t ht
    obtain ⟨w1, w2, w3, w4⟩ := hw.2 t ht
    show wX5_pathPairs_4 _ _ _ _ _ _
    rw [wX5_pathPairs_4]
    simp (disch := omega) only [h2, fa_lit, nI_ltI, nI_leI, nI_eq, nI_add, pk_mul, nI_clamp, vp_in_nI, l_uk, l_n1, l_n1e, l_n1e2, l_n1l, l_n1l2, l_n1l3, not_true_eq_false, not_false_eq_true, true_implies, false_implies, true_and, and_true, and_self, forall_eq, bI_t, bI_f, Bool.false_eq_true, or_true, true_or, or_false, false_or, s1_ltx,  d_leF, d_leT, d_ltF, d_ltT, d_eqF, d_eqT]
    refine p_isNewStart (Tc_r hT hF) hw ht h1w hi ?_
    have hn2 : n = sm (fun r => if nws T t r then ends T t r else 0) i := hn
    cases e : nws T t i
    · simp (disch := omega) only [fa_lit, nI_ltI, nI_leI, nI_eq, nI_add, pk_mul, nI_clamp, vp_in_nI, l_uk, l_n1, l_n1e, l_n1e2, l_n1l, l_n1l2, l_n1l3, not_true_eq_false, not_false_eq_true, true_implies, false_implies, true_and, and_true, and_self, forall_eq, bI_t, bI_f, Bool.false_eq_true, or_true, true_or, or_false, false_or, s1_ltx,  d_leF, d_leT, d_ltF, d_ltT, d_eqF, d_eqT]
      refine hk (n, I2) ⟨hF, ?_⟩
      show n = _
      rw [sm_s, e, hn2]
      rfl
    · simp (disch := omega) only [fa_lit, nI_ltI, nI_leI, nI_eq, nI_add, pk_mul, nI_clamp, vp_in_nI, l_uk, l_n1, l_n1e, l_n1e2, l_n1l, l_n1l2, l_n1l3, not_true_eq_false, not_false_eq_true, true_implies, false_implies, true_and, and_true, and_self, forall_eq, bI_t, bI_f, Bool.false_eq_true, or_true, true_or, or_false, false_or, s1_ltx,  d_leF, d_leT, d_ltF, d_ltT, d_eqF, d_eqT]
      refine p_value (c := 0) (Tc_r hT hF) hw ht hi (by omega) ?_
      refine p_spread (Tc_r hT hF) hw ht h1w (fun I3 hF3 hA3 => ?_)
      have hF4 : ∀ b, b ≠ 5 + 3 * t → I3 b = I b := fun b hb => (hF3 b hb).trans (hF b hb)
      refine p_countReachedEnds (Tc_r hT hF4) hw ht h1w hA3 ?_
      simp (disch := omega) only [fa_lit, nI_ltI, nI_leI, nI_eq, nI_add, pk_mul, nI_clamp, vp_in_nI, l_uk, l_n1, l_n1e, l_n1e2, l_n1l, l_n1l2, l_n1l3, not_true_eq_false, not_false_eq_true, true_implies, false_implies, true_and, and_true, and_self, forall_eq, bI_t, bI_f, Bool.false_eq_true, or_true, true_or, or_false, false_or, s1_ltx,  d_leF, d_leT, d_ltF, d_ltT, d_eqF, d_eqT]
      refine hk (n + ends T t i, I3) ⟨hF4, ?_⟩
      show n + ends T t i = _
      rw [sm_s, e, hn2]
      rfl
