/-! pure: links and estimates: the class and the reference -/
def Kc (I : QI) (K : List Q4) : Prop := I 37 9 = nI K.length ∧ ∀ v, v < K.length → I 38 v = nI (vq K v).1 ∧ I 39 v = nI (vq K v).2.2.1 ∧ I 40 v = nI (vq K v).2.1 ∧ I 41 v = nI (vq K v).2.2.2
def Km (I : QI) (K : List Q4) : Prop := I 51 14 = nI K.length ∧ ∀ v, v < K.length → I 62 (4 * v) = nI (vq K v).1 ∧ I 62 (4 * v + 1) = nI (vq K v).2.2.1 ∧ I 62 (4 * v + 2) = nI (vq K v).2.1 ∧ I 62 (4 * v + 3) = nI (vq K v).2.2.2
def Kw (T : QT) (K : List Q4) : Prop := K.length ≤ 6 ∧ ∀ v, v < K.length → q4W T (vq K v)
theorem Kw.b {T : QT} {K : List Q4} {v : Nat} (hw : Kw T K) (hwT : Tw T) (hv : v < K.length) : (vq K v).1 < 4 ∧ (vq K v).2.1 < 4 ∧ T.2.2.1 (vq K v).1 ≤ 10 ∧ T.2.2.1 (vq K v).2.1 ≤ 10 ∧ (vq K v).2.2.1 < 3 ∧ (vq K v).2.2.2 < 3 := by
  obtain ⟨a, b, c, d⟩ := hw.2 v hv
  obtain ⟨x1, x2, x3, x4⟩ := hwT.l a
  obtain ⟨y1, y2, y3, y4⟩ := hwT.l b
  exact ⟨x1, y1, x3, y3, by omega, by omega⟩
theorem o_has : ∀ s, s < 16 → ∀ t, t < 4 → ((nI s >>> (nI t &&& nI 31)) &&& nI 1) = bI (Nat.testBit s t) := by decide +kernel
theorem o_has_t {s t : Nat} (hs : s < 16) (ht : t < 4) (h : Nat.testBit s t = true) : ((nI s >>> (nI t &&& nI 31)) &&& nI 1) = nI 1 := by rw [o_has s hs t ht, h]; rfl
theorem o_has_f {s t : Nat} (hs : s < 16) (ht : t < 4) (h : Nat.testBit s t = false) : ((nI s >>> (nI t &&& nI 31)) &&& nI 1) = nI 0 := by rw [o_has s hs t ht, h]; rfl
theorem p_has2 {I : QI} {s t : Nat} {post : Int32 → Prop} (hs : s < 16) (ht : t < 4) (h : post (bI (Nat.testBit s t))) : wX1_has (nI s) (nI t) I post := by
  unfold wX1_has
  cases e : Nat.testBit s t
  · rw [e] at h
    simp (disch := omega) only [o_has_f hs ht e, fa_lit, nI_ltI, nI_leI, nI_eq, nI_add, pk_mul, nI_clamp, vp_in_nI, l_uk, l_n1, l_n1e, l_n1e2, l_n1l, l_n1l2, l_n1l3, not_true_eq_false, not_false_eq_true, true_implies, false_implies, true_and, and_true, and_self, forall_eq, bI_t, bI_f, Bool.false_eq_true, or_true, true_or, or_false, false_or, s1_ltx, if_true, if_false, Nat.add_zero, Nat.zero_add,  d_leF, d_leT, d_ltF, d_ltT, d_eqF, d_eqT]
    exact h
  · rw [e] at h
    simp (disch := omega) only [o_has_t hs ht e, fa_lit, nI_ltI, nI_leI, nI_eq, nI_add, pk_mul, nI_clamp, vp_in_nI, l_uk, l_n1, l_n1e, l_n1e2, l_n1l, l_n1l2, l_n1l3, not_true_eq_false, not_false_eq_true, true_implies, false_implies, true_and, and_true, and_self, forall_eq, bI_t, bI_f, Bool.false_eq_true, or_true, true_or, or_false, false_or, s1_ltx, if_true, if_false, Nat.add_zero, Nat.zero_add,  d_leF, d_leT, d_ltF, d_ltT, d_eqF, d_eqT]
    exact h
def gp (T : QT) (s : Nat) : Nat → Nat
  | 0 => 1
  | t + 1 => if Nat.testBit s t then gp T s t * max 1 (T.2.2.1 t) else gp T s t
def dv (T : QT) (q : Q4) : Nat := max 1 (max (ct (kn T q.1 q.2.2.1) (T.2.2.1 q.1)) (ct (kn T q.2.1 q.2.2.2) (T.2.2.1 q.2.1)))
def gl (T : QT) (K : List Q4) (s : Nat) : Nat → Nat
  | 0 => gp T s 4
  | l + 1 => if Nat.testBit s (vq K l).1 && Nat.testBit s (vq K l).2.1 then gl T K s l / dv T (vq K l) else gl T K s l
def gs (T : QT) (K : List Q4) (s : Nat) : Nat := max 1 (gl T K s K.length)
theorem gp_le {T : QT} (hw : Tw T) {s : Nat} : ∀ {t : Nat}, t ≤ 4 → gp T s t ≤ 10 ^ t
  | 0, _ => Nat.le_refl _
  | t + 1, h => by
    have ih := gp_le hw (s := s) (t := t) (by omega)
    have h10 := (hw.2 t (by omega)).2.1
    rw [gp, Nat.pow_succ]
    split
    · exact Nat.mul_le_mul ih (by omega)
    · omega
theorem gl_le {T : QT} (hw : Tw T) {K : List Q4} {s : Nat} : ∀ l, gl T K s l ≤ 10000
  | 0 => gp_le hw (Nat.le_refl 4)
  | l + 1 => by
    have ih := gl_le hw (K := K) (s := s) l
    rw [gl]
    split
    · exact Nat.le_trans (Nat.div_le_self _ _) ih
    · exact ih
theorem max_if (n : Nat) (h : n < 2 ^ 31) : (if nI 1 < nI n then nI n else nI 1) = nI (max 1 n) := by
  by_cases e : 1 < n
  · rw [if_pos (by rw [nI_ltI (by omega) (by omega)]; exact e), show max 1 n = n by omega]
  · rw [if_neg (by rw [nI_ltI (by omega) (by omega)]; exact e), show max 1 n = 1 by omega]
theorem max_if2 (a b : Nat) (ha : a < 2 ^ 31) (hb : b < 2 ^ 31) : (if nI a < nI b then nI b else nI a) = nI (max a b) := by
  by_cases e : a < b
  · rw [if_pos (by rw [nI_ltI (by omega) (by omega)]; exact e), show max a b = b by omega]
  · rw [if_neg (by rw [nI_ltI (by omega) (by omega)]; exact e), show max a b = a by omega]
theorem dv_pos (T : QT) (q : Q4) : 0 < dv T q := by unfold dv; omega
theorem dv_le {T : QT} (hwT : Tw T) {q : Q4} (h1 : q.1 < 4) (h2 : q.2.1 < 4) : dv T q ≤ 10 := by
  have := ct_le (kn T q.1 q.2.2.1) (T.2.2.1 q.1)
  have := ct_le (kn T q.2.1 q.2.2.2) (T.2.2.1 q.2.1)
  have := (hwT.2 _ h1).2.1
  have := (hwT.2 _ h2).2.1
  unfold dv
  omega
section GG
variable {I : QI} {T : QT} {K : List Q4} {s : Nat}
/-- measured -/
def Ms (I : QI) (T : QT) (K : List Q4) : Prop := (∀ t, t < 4 → I 42 t = nI (max 1 (T.2.2.1 t))) ∧ ∀ l, l < K.length → I 43 l = nI (dv T (vq K l))
theorem p_guess {post : Int32 → Prop} (hwT : Tw T) (hK : Kc I K) (hw : Kw T K) (hM : Ms I T K) (hs : s < 16) (h : post (nI (gs T K s))) : wX1_guess (nI s) I post := by
  have hl := hw.1
  unfold wX1_guess
  refine lp (fun f t (p : Nat) => wX1_guess_4 (nI s) I (fun u5 => (∃ f : Nat, wX1_guess_34 (nI s) I (fun u13 => post (if 1 < u13 then u13 else 1)) post f u5 0)) post f (nI p) (nI t)) (fun t p => p = gp T s t) 4 ?_ ?_ 0 1 (Nat.zero_le _) rfl
  · intro f p hp
    show wX1_guess_4 _ _ _ _ _ _ _
    rw [wX1_guess_4]
    simp (disch := omega) only [fa_lit, nI_ltI, nI_leI, nI_eq, nI_add, pk_mul, nI_clamp, vp_in_nI, l_uk, l_n1, l_n1e, l_n1e2, l_n1l, l_n1l2, l_n1l3, not_true_eq_false, not_false_eq_true, true_implies, false_implies, true_and, and_true, and_self, forall_eq, bI_t, bI_f, Bool.false_eq_true, or_true, true_or, or_false, false_or, s1_ltx, if_true, if_false, Nat.add_zero, Nat.zero_add,  d_leF, d_leT, d_ltF, d_ltT, d_eqF, d_eqT]
    refine lp (fun f l (p : Nat) => wX1_guess_34 (nI s) I (fun u13 => post (if nI 1 < u13 then u13 else nI 1)) post f (nI p) (nI l)) (fun l p => p = gl T K s l) K.length ?_ ?_ 0 p (Nat.zero_le _) hp
    · intro f p hp
      have := gl_le hwT (K := K) (s := s) K.length
      show wX1_guess_34 _ _ _ _ _ _ _
      rw [wX1_guess_34]
      unfold gs at h
      rw [← hp] at h
      simp (disch := omega) only [hK.1, fa_lit, nI_ltI, nI_leI, nI_eq, nI_add, pk_mul, nI_clamp, vp_in_nI, l_uk, l_n1, l_n1e, l_n1e2, l_n1l, l_n1l2, l_n1l3, not_true_eq_false, not_false_eq_true, true_implies, false_implies, true_and, and_true, and_self, forall_eq, bI_t, bI_f, Bool.false_eq_true, or_true, true_or, or_false, false_or, s1_ltx, if_true, if_false, Nat.add_zero, Nat.zero_add,  d_leF, d_leT, d_ltF, d_ltT, d_eqF, d_eqT]
      split
      · rename_i e
        rw [show max 1 p = p by omega] at h
        exact h
      · rename_i e
        rw [show max 1 p = 1 by omega] at h
        exact h
    · intro f l p hl2 hp hk
      have := gl_le hwT (K := K) (s := s) l
      obtain ⟨q1, q2, q3, q4⟩ := hK.2 l hl2
      obtain ⟨b1, b2, b3, b4, b5, b6⟩ := hw.b hwT hl2
      have d1 := dv_pos T (vq K l)
      have d2 := dv_le hwT b1 b2
      rw [gl] at hk
      show wX1_guess_34 _ _ _ _ _ _ _
      rw [wX1_guess_34]
      simp (disch := omega) only [hK.1, q1, q3, fa_lit, nI_ltI, nI_leI, nI_eq, nI_add, pk_mul, nI_clamp, vp_in_nI, l_uk, l_n1, l_n1e, l_n1e2, l_n1l, l_n1l2, l_n1l3, not_true_eq_false, not_false_eq_true, true_implies, false_implies, true_and, and_true, and_self, forall_eq, bI_t, bI_f, Bool.false_eq_true, or_true, true_or, or_false, false_or, s1_ltx, if_true, if_false, Nat.add_zero, Nat.zero_add,  d_leF, d_leT, d_ltF, d_ltT, d_eqF, d_eqT]
      refine p_has2 hs b1 ?_
      cases e1 : Nat.testBit s (vq K l).1
      · rw [e1] at hk
        simp (disch := omega) only [fa_lit, nI_ltI, nI_leI, nI_eq, nI_add, pk_mul, nI_clamp, vp_in_nI, l_uk, l_n1, l_n1e, l_n1e2, l_n1l, l_n1l2, l_n1l3, not_true_eq_false, not_false_eq_true, true_implies, false_implies, true_and, and_true, and_self, forall_eq, bI_t, bI_f, Bool.false_eq_true, or_true, true_or, or_false, false_or, s1_ltx, if_true, if_false, Nat.add_zero, Nat.zero_add,  d_leF, d_leT, d_ltF, d_ltT, d_eqF, d_eqT]
        exact hk p hp
      · rw [e1] at hk
        simp (disch := omega) only [fa_lit, nI_ltI, nI_leI, nI_eq, nI_add, pk_mul, nI_clamp, vp_in_nI, l_uk, l_n1, l_n1e, l_n1e2, l_n1l, l_n1l2, l_n1l3, not_true_eq_false, not_false_eq_true, true_implies, false_implies, true_and, and_true, and_self, forall_eq, bI_t, bI_f, Bool.false_eq_true, or_true, true_or, or_false, false_or, s1_ltx, if_true, if_false, Nat.add_zero, Nat.zero_add,  d_leF, d_leT, d_ltF, d_ltT, d_eqF, d_eqT]
        refine p_has2 hs b2 ?_
        cases e2 : Nat.testBit s (vq K l).2.1
        · rw [e2] at hk
          simp (disch := omega) only [fa_lit, nI_ltI, nI_leI, nI_eq, nI_add, pk_mul, nI_clamp, vp_in_nI, l_uk, l_n1, l_n1e, l_n1e2, l_n1l, l_n1l2, l_n1l3, not_true_eq_false, not_false_eq_true, true_implies, false_implies, true_and, and_true, and_self, forall_eq, bI_t, bI_f, Bool.false_eq_true, or_true, true_or, or_false, false_or, s1_ltx, if_true, if_false, Nat.add_zero, Nat.zero_add,  d_leF, d_leT, d_ltF, d_ltT, d_eqF, d_eqT]
          exact hk p hp
        · rw [e2] at hk
          simp (disch := omega) only [hM.2 l hl2, pk_div, fa_lit, nI_ltI, nI_leI, nI_eq, nI_add, pk_mul, nI_clamp, vp_in_nI, l_uk, l_n1, l_n1e, l_n1e2, l_n1l, l_n1l2, l_n1l3, not_true_eq_false, not_false_eq_true, true_implies, false_implies, true_and, and_true, and_self, forall_eq, bI_t, bI_f, Bool.false_eq_true, or_true, true_or, or_false, false_or, s1_ltx, if_true, if_false, Nat.add_zero, Nat.zero_add,  d_leF, d_leT, d_ltF, d_ltT, d_eqF, d_eqT]
          exact hk _ (by rw [hp]; rfl)
  · intro f t p ht hp hk
    rw [gp] at hk
    show wX1_guess_4 _ _ _ _ _ _ _
    rw [wX1_guess_4]
    simp (disch := omega) only [fa_lit, nI_ltI, nI_leI, nI_eq, nI_add, pk_mul, nI_clamp, vp_in_nI, l_uk, l_n1, l_n1e, l_n1e2, l_n1l, l_n1l2, l_n1l3, not_true_eq_false, not_false_eq_true, true_implies, false_implies, true_and, and_true, and_self, forall_eq, bI_t, bI_f, Bool.false_eq_true, or_true, true_or, or_false, false_or, s1_ltx, if_true, if_false, Nat.add_zero, Nat.zero_add,  d_leF, d_leT, d_ltF, d_ltT, d_eqF, d_eqT]
    refine p_has2 hs ht ?_
    cases e1 : Nat.testBit s t
    · rw [e1] at hk
      simp (disch := omega) only [fa_lit, nI_ltI, nI_leI, nI_eq, nI_add, pk_mul, nI_clamp, vp_in_nI, l_uk, l_n1, l_n1e, l_n1e2, l_n1l, l_n1l2, l_n1l3, not_true_eq_false, not_false_eq_true, true_implies, false_implies, true_and, and_true, and_self, forall_eq, bI_t, bI_f, Bool.false_eq_true, or_true, true_or, or_false, false_or, s1_ltx, if_true, if_false, Nat.add_zero, Nat.zero_add,  d_leF, d_leT, d_ltF, d_ltT, d_eqF, d_eqT]
      exact hk p hp
    · rw [e1] at hk
      simp (disch := omega) only [hM.1 t ht, fa_lit, nI_ltI, nI_leI, nI_eq, nI_add, pk_mul, nI_clamp, vp_in_nI, l_uk, l_n1, l_n1e, l_n1e2, l_n1l, l_n1l2, l_n1l3, not_true_eq_false, not_false_eq_true, true_implies, false_implies, true_and, and_true, and_self, forall_eq, bI_t, bI_f, Bool.false_eq_true, or_true, true_or, or_false, false_or, s1_ltx, if_true, if_false, Nat.add_zero, Nat.zero_add,  d_leF, d_leT, d_ltF, d_ltT, d_eqF, d_eqT]
      exact hk _ (by rw [hp]; rfl)
theorem p_wcountKnown {t c : Nat} {post : Int32 → Prop} (hT : Tc I T) (hwT : Tw T) (ht : t < T.1) (hc : c < T.2.1 t) (h : post (nI (ct (kn T t c) (T.2.2.1 t)))) : wX4_countKnownValues (nI t) (nI c) I post := by
  unfold wX4_countKnownValues
  exact find_t hT hwT ht (b_some (p_countKnownValues hT hwT (hwT.l ht).1 hc h))
theorem p_countRows {t : Nat} {post : Int32 → Prop} (hT : Tc I T) (hwT : Tw T) (ht : t < 4) (h : post (nI (T.2.2.1 t))) : wX4_countRows (nI t) I post := by
  have h4 := hwT.1
  unfold wX4_countRows
  by_cases e : t < T.1
  · refine find_t hT hwT e (b_some ?_)
    unfold wX5_count
    rw [(hT.t ht).2]
    exact h
  · rw [(hwT.2 t ht).2.2.2 (by omega)] at h
    refine find_f hT hwT (Or.inr ?_) (b_none h)
    rw [nI_leI (by omega) (by omega)]
    omega
theorem p_measure {post : QI → Prop} (hT : Tc I T) (hwT : Tw T) (hK : Kc I K) (hw : Kw T K) (h : ∀ I2 : QI, (∀ b, b ≠ 42 → b ≠ 43 → I2 b = I b) → Ms I2 T K → post I2) : wX1_measure I post := by
  have hl := hw.1
  unfold wX1_measure
  refine lp (fun f t (I2 : QI) => wX1_measure_2 (fun I4 => (∃ f : Nat, wX1_measure_33 post f 0 I4)) post f (nI t) I2) (fun t I2 => (∀ b, b ≠ 42 → I2 b = I b) ∧ ∀ u, u < t → I2 42 u = nI (max 1 (T.2.2.1 u))) 4 ?_ ?_ 0 I (Nat.zero_le _) ⟨fun _ _ => rfl, fun c hc => absurd hc (Nat.not_lt_zero c)⟩
  · rintro f I2 ⟨hF, h42⟩
    show wX1_measure_2 _ _ _ _ _
    rw [wX1_measure_2]
    simp (disch := omega) only [fa_lit, nI_ltI, nI_leI, nI_eq, nI_add, pk_mul, nI_clamp, vp_in_nI, l_uk, l_n1, l_n1e, l_n1e2, l_n1l, l_n1l2, l_n1l3, not_true_eq_false, not_false_eq_true, true_implies, false_implies, true_and, and_true, and_self, forall_eq, bI_t, bI_f, Bool.false_eq_true, or_true, true_or, or_false, false_or, s1_ltx, if_true, if_false, Nat.add_zero, Nat.zero_add,  d_leF, d_leT, d_ltF, d_ltT, d_eqF, d_eqT]
    refine lp (fun f l (I3 : QI) => wX1_measure_33 post f (nI l) I3) (fun l I3 => (∀ b, b ≠ 43 → I3 b = I2 b) ∧ ∀ u, u < l → I3 43 u = nI (dv T (vq K u))) K.length ?_ ?_ 0 I2 (Nat.zero_le _) ⟨fun _ _ => rfl, fun c hc => absurd hc (Nat.not_lt_zero c)⟩
    · rintro f I3 ⟨hF3, h43⟩
      have e9 : I3 37 9 = nI K.length := by rw [hF3 37 (by omega), hF 37 (by omega)]; exact hK.1
      show wX1_measure_33 _ _ _ _
      rw [wX1_measure_33]
      simp (disch := omega) only [e9, fa_lit, nI_ltI, nI_leI, nI_eq, nI_add, pk_mul, nI_clamp, vp_in_nI, l_uk, l_n1, l_n1e, l_n1e2, l_n1l, l_n1l2, l_n1l3, not_true_eq_false, not_false_eq_true, true_implies, false_implies, true_and, and_true, and_self, forall_eq, bI_t, bI_f, Bool.false_eq_true, or_true, true_or, or_false, false_or, s1_ltx, if_true, if_false, Nat.add_zero, Nat.zero_add,  d_leF, d_leT, d_ltF, d_ltT, d_eqF, d_eqT]
      exact h I3 (fun b h1 h2 => by rw [hF3 b h2, hF b h1]) ⟨fun u hu => by rw [hF3 42 (by omega)]; exact h42 u hu, h43⟩
    · rintro f l I3 hl2 ⟨hF3, h43⟩ hk
      have e9 : I3 37 9 = nI K.length := by rw [hF3 37 (by omega), hF 37 (by omega)]; exact hK.1
      obtain ⟨q1, q2, q3, q4⟩ := hK.2 l hl2
      rw [← hF 38 (by omega), ← hF3 38 (by omega)] at q1
      rw [← hF 39 (by omega), ← hF3 39 (by omega)] at q2
      rw [← hF 40 (by omega), ← hF3 40 (by omega)] at q3
      rw [← hF 41 (by omega), ← hF3 41 (by omega)] at q4
      obtain ⟨w1, w2, w3, w4⟩ := hw.2 l hl2
      obtain ⟨b1, b2, b3, b4, b5, b6⟩ := hw.b hwT hl2
      have hT3 : Tc I3 T := Tc_fr hT (fun b hb => by rw [hF3 b (by omega), hF b (by omega)])
      have c1 := ct_le (kn T (vq K l).1 (vq K l).2.2.1) (T.2.2.1 (vq K l).1)
      have c2 := ct_le (kn T (vq K l).2.1 (vq K l).2.2.2) (T.2.2.1 (vq K l).2.1)
      show wX1_measure_33 _ _ _ _
      rw [wX1_measure_33]
      simp (disch := omega) only [e9, q1, q2, q3, q4, fa_lit, nI_ltI, nI_leI, nI_eq, nI_add, pk_mul, nI_clamp, vp_in_nI, l_uk, l_n1, l_n1e, l_n1e2, l_n1l, l_n1l2, l_n1l3, not_true_eq_false, not_false_eq_true, true_implies, false_implies, true_and, and_true, and_self, forall_eq, bI_t, bI_f, Bool.false_eq_true, or_true, true_or, or_false, false_or, s1_ltx, if_true, if_false, Nat.add_zero, Nat.zero_add,  d_leF, d_leT, d_ltF, d_ltT, d_eqF, d_eqT]
      refine p_wcountKnown hT3 hwT w1 w3 (p_wcountKnown hT3 hwT w2 w4 ?_)
      have em : ∀ a b : Nat, a ≤ 10 → b ≤ 10 → (if nI 1 < (if nI a < nI b then nI b else nI a) then (if nI a < nI b then nI b else nI a) else nI 1) = nI (max 1 (max a b)) := fun a b ha hb => by rw [max_if2 _ _ (by omega) (by omega), max_if _ (by omega)]
      refine hk _ ⟨fr_u2 hF3, fun u hu => ?_⟩
      by_cases e : u = l
      · subst e
        exact (q_u2_s _ _ _ _).trans (em _ _ (by omega) (by omega))
      · rw [q_u2_j _ _ _ e]
        exact h43 u (by omega)
  · rintro f t I2 ht ⟨hF, h42⟩ hk
    have m10 := (hwT.2 t ht).2.1
    have hT2 : Tc I2 T := Tc_fr hT (fun b hb => hF b (by omega))
    show wX1_measure_2 _ _ _ _ _
    rw [wX1_measure_2]
    simp (disch := omega) only [fa_lit, nI_ltI, nI_leI, nI_eq, nI_add, pk_mul, nI_clamp, vp_in_nI, l_uk, l_n1, l_n1e, l_n1e2, l_n1l, l_n1l2, l_n1l3, not_true_eq_false, not_false_eq_true, true_implies, false_implies, true_and, and_true, and_self, forall_eq, bI_t, bI_f, Bool.false_eq_true, or_true, true_or, or_false, false_or, s1_ltx, if_true, if_false, Nat.add_zero, Nat.zero_add,  d_leF, d_leT, d_ltF, d_ltT, d_eqF, d_eqT]
    refine p_countRows hT2 hwT ht ?_
    refine hk _ ⟨fr_u2 hF, fun u hu => ?_⟩
    by_cases e : u = t
    · subst e
      exact (q_u2_s _ _ _ _).trans (max_if _ (by omega))
    · rw [q_u2_j _ _ _ e]
      exact h42 u (by omega)
theorem gp_hi (hwT : Tw T) {t : Nat} (h1 : T.1 ≤ t) : t ≤ 4 → gp T s t = gp T s T.1 := by
  induction t with
  | zero => intro _; rw [show T.1 = 0 by omega]
  | succ t ih =>
    intro h4
    by_cases e : T.1 = t + 1
    · rw [e]
    · rw [gp, ih (by omega) (by omega), (hwT.2 t (by omega)).2.2.2 (by omega)]
      split
      · exact Nat.mul_one _
      · rfl
end GG
