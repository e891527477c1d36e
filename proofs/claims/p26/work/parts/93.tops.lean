/-! pure: tables made, rows added and taken: the class -/
theorem Tc.t {I : QI} {T : QT} (hT : Tc I T) {t : Nat} (ht : t < 4) : I (3 + 3 * t) 2 = nI (T.2.1 t) ∧ I (3 + 3 * t) 3 = nI (T.2.2.1 t) := ⟨(hT.2 t ht).1, (hT.2 t ht).2.1⟩
theorem Tw.l {T : QT} (hw : Tw T) {t : Nat} (ht : t < T.1) : t < 4 ∧ T.2.1 t ≤ 3 ∧ T.2.2.1 t ≤ 10 ∧ 1 ≤ T.2.1 t := ⟨by have := hw.1; omega, (hw.2 t (by have := hw.1; omega)).1, (hw.2 t (by have := hw.1; omega)).2.1, (hw.2 t (by have := hw.1; omega)).2.2.1 ht⟩
theorem find_t {I : QI} {T : QT} (hT : Tc I T) (hw : Tw T) {t : Nat} (ht : t < T.1) {post : Option Nat → Prop} (h : post (some t)) : wX4_find (nI t) I post := by
  have h4 := hw.1
  unfold wX4_find
  simp (disch := omega) only [hT.1, fa_lit, nI_ltI, nI_leI, nI_eq, nI_add, pk_mul, nI_clamp, vp_in_nI, l_uk, l_n1, l_n1e, l_n1e2, l_n1l, l_n1l2, l_n1l3, not_true_eq_false, not_false_eq_true, true_implies, false_implies, true_and, and_true, and_self, forall_eq, bI_t, bI_f, Bool.false_eq_true, or_true, true_or, or_false, false_or, s1_ltx, if_true, if_false, Nat.add_zero, Nat.zero_add,  d_leF, d_leT, d_ltF, d_ltT, d_eqF, d_eqT]
  exact fun t1 _ e => by subst e; exact h
theorem find_f {I : QI} {T : QT} (hT : Tc I T) (hw : Tw T) {x : Int32} (hx : x < 0 ∨ nI T.1 ≤ x) {post : Option Nat → Prop} (h : post none) : wX4_find x I post := by
  have h4 := hw.1
  unfold wX4_find
  refine ⟨fun _ => h, fun e => ⟨fun _ => h, fun e2 => ?_⟩⟩
  rw [hT.1] at e2
  exact absurd hx (not_or.mpr ⟨e, e2⟩)
def kv (x : Int32) : Bool := decide (¬ x < -(nI 99) ∧ ¬ nI 99 < x)
def okv (x : Int32) : Bool := decide (x = UK) || kv x
def okc (b : Bool) (x : Int32) : Bool := if b then okv x else decide (x = 0)
theorem p_isKnownValue {I : QI} {x : Int32} {post : Int32 → Prop} (h : post (bI (kv x))) : wX7_isKnownValue x I post := by
  unfold wX7_isKnownValue
  refine ⟨fun e => ?_, fun e => ⟨fun e2 => ?_, fun e2 => ?_⟩⟩
  · have e3 : kv x = false := decide_eq_false (fun z => z.1 e)
    rw [e3] at h; exact h
  · have e3 : kv x = false := decide_eq_false (fun z => z.2 e2)
    rw [e3] at h; exact h
  · have e3 : kv x = true := decide_eq_true ⟨e, e2⟩
    rw [e3] at h; exact h
theorem p_allowsIn {I : QI} {T : QT} (hT : Tc I T) {t c : Nat} (ht : t < 4) (hc : c < 3) (hw : T.2.1 t ≤ 3) {x : Int32} {post : Int32 → Prop} (h : post (bI (okc (decide (c < T.2.1 t)) x))) : wX5_allowsIn t (nI c) x I post := by
  unfold wX5_allowsIn
  by_cases hcw : c < T.2.1 t
  · rw [decide_eq_true hcw] at h
    simp (disch := omega) only [(hT.t ht).1, fa_lit, nI_ltI, nI_leI, nI_eq, nI_add, pk_mul, nI_clamp, vp_in_nI, l_uk, l_n1, l_n1e, l_n1e2, l_n1l, l_n1l2, l_n1l3, not_true_eq_false, not_false_eq_true, true_implies, false_implies, true_and, and_true, and_self, forall_eq, bI_t, bI_f, Bool.false_eq_true, or_true, true_or, or_false, false_or, s1_ltx, if_true, if_false, Nat.add_zero, Nat.zero_add,  d_leF, d_leT, d_ltF, d_ltT, d_eqF, d_eqT]
    refine ⟨fun e => ?_, fun e => p_isKnownValue ?_⟩
    · have e3 : okc true x = true := by unfold okc okv; rw [decide_eq_true e]; rfl
      rw [e3] at h; exact h
    · have e3 : okc true x = kv x := by unfold okc okv; rw [decide_eq_false e]; rfl
      rw [e3] at h
      cases e4 : kv x
      · rw [e4] at h
        simp (disch := omega) only [fa_lit, nI_ltI, nI_leI, nI_eq, nI_add, pk_mul, nI_clamp, vp_in_nI, l_uk, l_n1, l_n1e, l_n1e2, l_n1l, l_n1l2, l_n1l3, not_true_eq_false, not_false_eq_true, true_implies, false_implies, true_and, and_true, and_self, forall_eq, bI_t, bI_f, Bool.false_eq_true, or_true, true_or, or_false, false_or, s1_ltx, if_true, if_false, Nat.add_zero, Nat.zero_add,  d_leF, d_leT, d_ltF, d_ltT, d_eqF, d_eqT]
        exact h
      · rw [e4] at h
        simp (disch := omega) only [fa_lit, nI_ltI, nI_leI, nI_eq, nI_add, pk_mul, nI_clamp, vp_in_nI, l_uk, l_n1, l_n1e, l_n1e2, l_n1l, l_n1l2, l_n1l3, not_true_eq_false, not_false_eq_true, true_implies, false_implies, true_and, and_true, and_self, forall_eq, bI_t, bI_f, Bool.false_eq_true, or_true, true_or, or_false, false_or, s1_ltx, if_true, if_false, Nat.add_zero, Nat.zero_add,  d_leF, d_leT, d_ltF, d_ltT, d_eqF, d_eqT]
        exact h
  · rw [decide_eq_false hcw] at h
    simp (disch := omega) only [(hT.t ht).1, fa_lit, nI_ltI, nI_leI, nI_eq, nI_add, pk_mul, nI_clamp, vp_in_nI, l_uk, l_n1, l_n1e, l_n1e2, l_n1l, l_n1l2, l_n1l3, not_true_eq_false, not_false_eq_true, true_implies, false_implies, true_and, and_true, and_self, forall_eq, bI_t, bI_f, Bool.false_eq_true, or_true, true_or, or_false, false_or, s1_ltx, if_true, if_false, Nat.add_zero, Nat.zero_add,  d_leF, d_leT, d_ltF, d_ltT, d_eqF, d_eqT]
    refine ⟨fun e => ?_, fun e => ?_⟩
    · have e3 : okc false x = false := decide_eq_false e
      rw [e3] at h; exact h
    · have e3 : okc false x = true := decide_eq_true e
      rw [e3] at h; exact h
def alw (T : QT) (t : Nat) (a b c : Int32) : Bool := okv a && okc (decide (1 < T.2.1 t)) b && okc (decide (2 < T.2.1 t)) c
theorem p_allows {I : QI} {T : QT} (hT : Tc I T) (hw : Tw T) {t : Nat} (ht : t < T.1) {a b c : Int32} {post : Int32 → Prop} (h : post (bI (alw T t a b c))) : wX5_allows t a b c I post := by
  obtain ⟨t4, w3, m10, w1⟩ := hw.l ht
  have e0 : okc (decide (0 < T.2.1 t)) a = okv a := by rw [decide_eq_true (show 0 < T.2.1 t by omega)]; rfl
  unfold alw at h
  unfold wX5_allows
  refine p_allowsIn (c := 0) hT t4 (by omega) w3 ?_
  rw [e0]
  cases e1 : okv a
  · rw [e1] at h
    simp (disch := omega) only [fa_lit, nI_ltI, nI_leI, nI_eq, nI_add, pk_mul, nI_clamp, vp_in_nI, l_uk, l_n1, l_n1e, l_n1e2, l_n1l, l_n1l2, l_n1l3, not_true_eq_false, not_false_eq_true, true_implies, false_implies, true_and, and_true, and_self, forall_eq, bI_t, bI_f, Bool.false_eq_true, or_true, true_or, or_false, false_or, s1_ltx, if_true, if_false, Nat.add_zero, Nat.zero_add,  d_leF, d_leT, d_ltF, d_ltT, d_eqF, d_eqT]
    exact h
  · rw [e1] at h
    simp (disch := omega) only [fa_lit, nI_ltI, nI_leI, nI_eq, nI_add, pk_mul, nI_clamp, vp_in_nI, l_uk, l_n1, l_n1e, l_n1e2, l_n1l, l_n1l2, l_n1l3, not_true_eq_false, not_false_eq_true, true_implies, false_implies, true_and, and_true, and_self, forall_eq, bI_t, bI_f, Bool.false_eq_true, or_true, true_or, or_false, false_or, s1_ltx, if_true, if_false, Nat.add_zero, Nat.zero_add,  d_leF, d_leT, d_ltF, d_ltT, d_eqF, d_eqT]
    refine p_allowsIn (c := 1) hT t4 (by omega) w3 ?_
    cases e2 : okc (decide (1 < T.2.1 t)) b
    · rw [e2] at h
      simp (disch := omega) only [fa_lit, nI_ltI, nI_leI, nI_eq, nI_add, pk_mul, nI_clamp, vp_in_nI, l_uk, l_n1, l_n1e, l_n1e2, l_n1l, l_n1l2, l_n1l3, not_true_eq_false, not_false_eq_true, true_implies, false_implies, true_and, and_true, and_self, forall_eq, bI_t, bI_f, Bool.false_eq_true, or_true, true_or, or_false, false_or, s1_ltx, if_true, if_false, Nat.add_zero, Nat.zero_add,  d_leF, d_leT, d_ltF, d_ltT, d_eqF, d_eqT]
      exact h
    · rw [e2] at h
      simp (disch := omega) only [fa_lit, nI_ltI, nI_leI, nI_eq, nI_add, pk_mul, nI_clamp, vp_in_nI, l_uk, l_n1, l_n1e, l_n1e2, l_n1l, l_n1l2, l_n1l3, not_true_eq_false, not_false_eq_true, true_implies, false_implies, true_and, and_true, and_self, forall_eq, bI_t, bI_f, Bool.false_eq_true, or_true, true_or, or_false, false_or, s1_ltx, if_true, if_false, Nat.add_zero, Nat.zero_add,  d_leF, d_leT, d_ltF, d_ltT, d_eqF, d_eqT]
      refine p_allowsIn (c := 2) hT t4 (by omega) w3 ?_
      cases e3 : okc (decide (2 < T.2.1 t)) c
      · rw [e3] at h
        simp (disch := omega) only [fa_lit, nI_ltI, nI_leI, nI_eq, nI_add, pk_mul, nI_clamp, vp_in_nI, l_uk, l_n1, l_n1e, l_n1e2, l_n1l, l_n1l2, l_n1l3, not_true_eq_false, not_false_eq_true, true_implies, false_implies, true_and, and_true, and_self, forall_eq, bI_t, bI_f, Bool.false_eq_true, or_true, true_or, or_false, false_or, s1_ltx, if_true, if_false, Nat.add_zero, Nat.zero_add,  d_leF, d_leT, d_ltF, d_ltT, d_eqF, d_eqT]
        exact h
      · rw [e3] at h
        simp (disch := omega) only [fa_lit, nI_ltI, nI_leI, nI_eq, nI_add, pk_mul, nI_clamp, vp_in_nI, l_uk, l_n1, l_n1e, l_n1e2, l_n1l, l_n1l2, l_n1l3, not_true_eq_false, not_false_eq_true, true_implies, false_implies, true_and, and_true, and_self, forall_eq, bI_t, bI_f, Bool.false_eq_true, or_true, true_or, or_false, false_or, s1_ltx, if_true, if_false, Nat.add_zero, Nat.zero_add,  d_leF, d_leT, d_ltF, d_ltT, d_eqF, d_eqT]
        exact h
def opT (T : QT) (w : Nat) : QT := (T.1 + 1, fun t => if t = T.1 then w else T.2.1 t, T.2.2)
theorem opT_w {T : QT} (hw : Tw T) (h : T.1 < 4) {w : Nat} (h1 : 1 ≤ w) (h3 : w ≤ 3) : Tw (opT T w) := by
  refine ⟨h, fun t ht => ?_⟩
  obtain ⟨a, b, c, d⟩ := hw.2 t ht
  show (if t = T.1 then w else T.2.1 t) ≤ 3 ∧ T.2.2.1 t ≤ 10 ∧ (t < T.1 + 1 → 1 ≤ (if t = T.1 then w else T.2.1 t)) ∧ (T.1 + 1 ≤ t → T.2.2.1 t = 0)
  refine ⟨by split <;> omega, b, fun h => ?_, fun h => d (by omega)⟩
  split
  · omega
  · exact c (by omega)
theorem p_open {I : QI} {T : QT} (hT : Tc I T) (hw : Tw T) {w : Nat} {post : Int32 → QI → Prop} (h1 : T.1 < 4 → ∀ I2 : QI, Tc I2 (opT T w) → (∀ b, 15 ≤ b ∨ b = 0 → I2 b = I b) → I2 1 2 = I 1 2 → post (nI T.1) I2) (h2 : ¬ T.1 < 4 → post N1 I) : wX4_open (nI w) I post := by
  have h4 := hw.1
  unfold wX4_open wX5_open
  by_cases hc : T.1 < 4
  · simp (disch := omega) only [hT.1, fa_lit, nI_ltI, nI_leI, nI_eq, nI_add, pk_mul, nI_clamp, vp_in_nI, l_uk, l_n1, l_n1e, l_n1e2, l_n1l, l_n1l2, l_n1l3, not_true_eq_false, not_false_eq_true, true_implies, false_implies, true_and, and_true, and_self, forall_eq, bI_t, bI_f, Bool.false_eq_true, or_true, true_or, or_false, false_or, s1_ltx, if_true, if_false, Nat.add_zero, Nat.zero_add,  d_leF, d_leT, d_ltF, d_ltT, d_eqF, d_eqT]
    refine fun t _ e => ?_
    subst e
    simp (disch := omega) only [hT.1, q_u2_s, ne_u2, nr_u2, fa_lit, nI_ltI, nI_leI, nI_eq, nI_add, pk_mul, nI_clamp, vp_in_nI, l_uk, l_n1, l_n1e, l_n1e2, l_n1l, l_n1l2, l_n1l3, not_true_eq_false, not_false_eq_true, true_implies, false_implies, true_and, and_true, and_self, forall_eq, bI_t, bI_f, Bool.false_eq_true, or_true, true_or, or_false, false_or, s1_ltx, if_true, if_false, Nat.add_zero, Nat.zero_add,  d_leF, d_leT, d_ltF, d_ltT, d_eqF, d_eqT]
    have e9 : nI (T.1 + 1) - nI 1 = nI T.1 := by rw [pk_sub (by omega)]; rfl
    rw [e9]
    refine h1 hc _ ⟨?_, fun u hu => ⟨?_, ?_, fun r c hr hc => ?_⟩⟩ (fun b hb => ?_) ?_
    · exact q_u2_s _ _ _ _
    · by_cases e : u = T.1
      · subst e
        simp (disch := omega) only [opT, q_u2_s, ne_u2, nr_u2, fa_lit, nI_ltI, nI_leI, nI_eq, nI_add, pk_mul, nI_clamp, vp_in_nI, l_uk, l_n1, l_n1e, l_n1e2, l_n1l, l_n1l2, l_n1l3, not_true_eq_false, not_false_eq_true, true_implies, false_implies, true_and, and_true, and_self, forall_eq, bI_t, bI_f, Bool.false_eq_true, or_true, true_or, or_false, false_or, s1_ltx, if_true, if_false, Nat.add_zero, Nat.zero_add,  d_leF, d_leT, d_ltF, d_ltT, d_eqF, d_eqT]
      · simp (disch := omega) only [opT, (hT.t hu).1, q_u2_s, ne_u2, nr_u2, fa_lit, nI_ltI, nI_leI, nI_eq, nI_add, pk_mul, nI_clamp, vp_in_nI, l_uk, l_n1, l_n1e, l_n1e2, l_n1l, l_n1l2, l_n1l3, not_true_eq_false, not_false_eq_true, true_implies, false_implies, true_and, and_true, and_self, forall_eq, bI_t, bI_f, Bool.false_eq_true, or_true, true_or, or_false, false_or, s1_ltx, if_true, if_false, Nat.add_zero, Nat.zero_add,  d_leF, d_leT, d_ltF, d_ltT, d_eqF, d_eqT]
    · have := (hw.2 u hu).2.2.2
      by_cases e : u = T.1
      · subst e
        simp (disch := omega) only [opT, this (Nat.le_refl _), q_u2_s, ne_u2, nr_u2, fa_lit, nI_ltI, nI_leI, nI_eq, nI_add, pk_mul, nI_clamp, vp_in_nI, l_uk, l_n1, l_n1e, l_n1e2, l_n1l, l_n1l2, l_n1l3, not_true_eq_false, not_false_eq_true, true_implies, false_implies, true_and, and_true, and_self, forall_eq, bI_t, bI_f, Bool.false_eq_true, or_true, true_or, or_false, false_or, s1_ltx, if_true, if_false, Nat.add_zero, Nat.zero_add,  d_leF, d_leT, d_ltF, d_ltT, d_eqF, d_eqT]
      · simp (disch := omega) only [opT, (hT.t hu).2, q_u2_s, ne_u2, nr_u2, fa_lit, nI_ltI, nI_leI, nI_eq, nI_add, pk_mul, nI_clamp, vp_in_nI, l_uk, l_n1, l_n1e, l_n1e2, l_n1l, l_n1l2, l_n1l3, not_true_eq_false, not_false_eq_true, true_implies, false_implies, true_and, and_true, and_self, forall_eq, bI_t, bI_f, Bool.false_eq_true, or_true, true_or, or_false, false_or, s1_ltx, if_true, if_false, Nat.add_zero, Nat.zero_add,  d_leF, d_leT, d_ltF, d_ltT, d_eqF, d_eqT]
    · simp (disch := omega) only [opT, q_u2_s, ne_u2, nr_u2, fa_lit, nI_ltI, nI_leI, nI_eq, nI_add, pk_mul, nI_clamp, vp_in_nI, l_uk, l_n1, l_n1e, l_n1e2, l_n1l, l_n1l2, l_n1l3, not_true_eq_false, not_false_eq_true, true_implies, false_implies, true_and, and_true, and_self, forall_eq, bI_t, bI_f, Bool.false_eq_true, or_true, true_or, or_false, false_or, s1_ltx, if_true, if_false, Nat.add_zero, Nat.zero_add,  d_leF, d_leT, d_ltF, d_ltT, d_eqF, d_eqT]
      exact (hT.2 u hu).2.2 r c hr hc
    · simp (disch := omega) only [q_u2_s, ne_u2, nr_u2, fa_lit, nI_ltI, nI_leI, nI_eq, nI_add, pk_mul, nI_clamp, vp_in_nI, l_uk, l_n1, l_n1e, l_n1e2, l_n1l, l_n1l2, l_n1l3, not_true_eq_false, not_false_eq_true, true_implies, false_implies, true_and, and_true, and_self, forall_eq, bI_t, bI_f, Bool.false_eq_true, or_true, true_or, or_false, false_or, s1_ltx, if_true, if_false, Nat.add_zero, Nat.zero_add,  d_leF, d_leT, d_ltF, d_ltT, d_eqF, d_eqT]
    · simp (disch := omega) only [q_u2_s, ne_u2, nr_u2, fa_lit, nI_ltI, nI_leI, nI_eq, nI_add, pk_mul, nI_clamp, vp_in_nI, l_uk, l_n1, l_n1e, l_n1e2, l_n1l, l_n1l2, l_n1l3, not_true_eq_false, not_false_eq_true, true_implies, false_implies, true_and, and_true, and_self, forall_eq, bI_t, bI_f, Bool.false_eq_true, or_true, true_or, or_false, false_or, s1_ltx, if_true, if_false, Nat.add_zero, Nat.zero_add,  d_leF, d_leT, d_ltF, d_ltT, d_eqF, d_eqT]
  · simp (disch := omega) only [hT.1, fa_lit, nI_ltI, nI_leI, nI_eq, nI_add, pk_mul, nI_clamp, vp_in_nI, l_uk, l_n1, l_n1e, l_n1e2, l_n1l, l_n1l2, l_n1l3, not_true_eq_false, not_false_eq_true, true_implies, false_implies, true_and, and_true, and_self, forall_eq, bI_t, bI_f, Bool.false_eq_true, or_true, true_or, or_false, false_or, s1_ltx, if_true, if_false, Nat.add_zero, Nat.zero_add,  d_leF, d_leT, d_ltF, d_ltT, d_eqF, d_eqT]
    exact h2 hc
def adT (T : QT) (t : Nat) (a b c : Int32) : QT := (T.1, T.2.1, fun u => if u = t then T.2.2.1 t + 1 else T.2.2.1 u, fun u r k => if u = t ∧ r = T.2.2.1 t then (if k = 0 then a else if k = 1 then b else c) else T.2.2.2 u r k)
theorem adT_w {T : QT} (hw : Tw T) {t : Nat} (ht : t < T.1) (hm : T.2.2.1 t < 10) (a b c : Int32) : Tw (adT T t a b c) := by
  refine ⟨hw.1, fun u hu => ?_⟩
  obtain ⟨x, y, z, d⟩ := hw.2 u hu
  show T.2.1 u ≤ 3 ∧ (if u = t then T.2.2.1 t + 1 else T.2.2.1 u) ≤ 10 ∧ (u < T.1 → 1 ≤ T.2.1 u) ∧ (T.1 ≤ u → (if u = t then T.2.2.1 t + 1 else T.2.2.1 u) = 0)
  refine ⟨x, by split <;> omega, z, fun h => ?_⟩
  rw [if_neg (by omega)]
  exact d h
theorem p_append {I : QI} {T : QT} (hT : Tc I T) (hw : Tw T) {t : Nat} (ht : t < T.1) (hm : T.2.2.1 t < 10) {a b c : Int32} {post : QI → Prop} (h : ∀ I2 : QI, Tc I2 (adT T t a b c) → (∀ b, 15 ≤ b ∨ b = 0 → I2 b = I b) → I2 1 2 = I 1 2 → post I2) : wX5_append t a b c I post := by
  obtain ⟨t4, w3, m10, w1⟩ := hw.l ht
  unfold wX5_append
  simp (disch := omega) only [(hT.t t4).1, (hT.t t4).2, q_u2_s, ne_u2, nr_u2, fa_lit, nI_ltI, nI_leI, nI_eq, nI_add, pk_mul, nI_clamp, vp_in_nI, l_uk, l_n1, l_n1e, l_n1e2, l_n1l, l_n1l2, l_n1l3, not_true_eq_false, not_false_eq_true, true_implies, false_implies, true_and, and_true, and_self, forall_eq, bI_t, bI_f, Bool.false_eq_true, or_true, true_or, or_false, false_or, s1_ltx, if_true, if_false, Nat.add_zero, Nat.zero_add,  d_leF, d_leT, d_ltF, d_ltT, d_eqF, d_eqT]
  refine h _ ⟨?_, fun u hu => ⟨?_, ?_, fun r k hr hk => ?_⟩⟩ (fun b hb => ?_) ?_
  · simp (disch := omega) only [adT, hT.1, q_u2_s, ne_u2, nr_u2, fa_lit, nI_ltI, nI_leI, nI_eq, nI_add, pk_mul, nI_clamp, vp_in_nI, l_uk, l_n1, l_n1e, l_n1e2, l_n1l, l_n1l2, l_n1l3, not_true_eq_false, not_false_eq_true, true_implies, false_implies, true_and, and_true, and_self, forall_eq, bI_t, bI_f, Bool.false_eq_true, or_true, true_or, or_false, false_or, s1_ltx, if_true, if_false, Nat.add_zero, Nat.zero_add,  d_leF, d_leT, d_ltF, d_ltT, d_eqF, d_eqT]
  · simp (disch := omega) only [adT, (hT.t hu).1, q_u2_s, ne_u2, nr_u2, fa_lit, nI_ltI, nI_leI, nI_eq, nI_add, pk_mul, nI_clamp, vp_in_nI, l_uk, l_n1, l_n1e, l_n1e2, l_n1l, l_n1l2, l_n1l3, not_true_eq_false, not_false_eq_true, true_implies, false_implies, true_and, and_true, and_self, forall_eq, bI_t, bI_f, Bool.false_eq_true, or_true, true_or, or_false, false_or, s1_ltx, if_true, if_false, Nat.add_zero, Nat.zero_add,  d_leF, d_leT, d_ltF, d_ltT, d_eqF, d_eqT]
  · by_cases e : u = t
    · subst e
      simp (disch := omega) only [adT, q_u2_s, ne_u2, nr_u2, fa_lit, nI_ltI, nI_leI, nI_eq, nI_add, pk_mul, nI_clamp, vp_in_nI, l_uk, l_n1, l_n1e, l_n1e2, l_n1l, l_n1l2, l_n1l3, not_true_eq_false, not_false_eq_true, true_implies, false_implies, true_and, and_true, and_self, forall_eq, bI_t, bI_f, Bool.false_eq_true, or_true, true_or, or_false, false_or, s1_ltx, if_true, if_false, Nat.add_zero, Nat.zero_add,  d_leF, d_leT, d_ltF, d_ltT, d_eqF, d_eqT]
    · simp (disch := omega) only [adT, (hT.t hu).2, q_u2_s, ne_u2, nr_u2, fa_lit, nI_ltI, nI_leI, nI_eq, nI_add, pk_mul, nI_clamp, vp_in_nI, l_uk, l_n1, l_n1e, l_n1e2, l_n1l, l_n1l2, l_n1l3, not_true_eq_false, not_false_eq_true, true_implies, false_implies, true_and, and_true, and_self, forall_eq, bI_t, bI_f, Bool.false_eq_true, or_true, true_or, or_false, false_or, s1_ltx, if_true, if_false, Nat.add_zero, Nat.zero_add,  d_leF, d_leT, d_ltF, d_ltT, d_eqF, d_eqT]
  · have h0 := (hT.2 u hu).2.2 r k hr hk
    by_cases e : u = t ∧ r = T.2.2.1 t
    · obtain ⟨rfl, rfl⟩ := e
      have e3 : T.2.2.1 u * 3 = 3 * T.2.2.1 u := by omega
      rw [e3]
      rcases (show k = 0 ∨ k = 1 ∨ k = 2 by omega) with rfl | rfl | rfl
      · simp (disch := omega) only [adT, q_u2_s, ne_u2, nr_u2, fa_lit, nI_ltI, nI_leI, nI_eq, nI_add, pk_mul, nI_clamp, vp_in_nI, l_uk, l_n1, l_n1e, l_n1e2, l_n1l, l_n1l2, l_n1l3, not_true_eq_false, not_false_eq_true, true_implies, false_implies, true_and, and_true, and_self, forall_eq, bI_t, bI_f, Bool.false_eq_true, or_true, true_or, or_false, false_or, s1_ltx, if_true, if_false, Nat.add_zero, Nat.zero_add,  d_leF, d_leT, d_ltF, d_ltT, d_eqF, d_eqT]
      · simp (disch := omega) only [adT, q_u2_s, ne_u2, nr_u2, fa_lit, nI_ltI, nI_leI, nI_eq, nI_add, pk_mul, nI_clamp, vp_in_nI, l_uk, l_n1, l_n1e, l_n1e2, l_n1l, l_n1l2, l_n1l3, not_true_eq_false, not_false_eq_true, true_implies, false_implies, true_and, and_true, and_self, forall_eq, bI_t, bI_f, Bool.false_eq_true, or_true, true_or, or_false, false_or, s1_ltx, if_true, if_false, Nat.add_zero, Nat.zero_add,  d_leF, d_leT, d_ltF, d_ltT, d_eqF, d_eqT]
      · simp (disch := omega) only [adT, q_u2_s, ne_u2, nr_u2, fa_lit, nI_ltI, nI_leI, nI_eq, nI_add, pk_mul, nI_clamp, vp_in_nI, l_uk, l_n1, l_n1e, l_n1e2, l_n1l, l_n1l2, l_n1l3, not_true_eq_false, not_false_eq_true, true_implies, false_implies, true_and, and_true, and_self, forall_eq, bI_t, bI_f, Bool.false_eq_true, or_true, true_or, or_false, false_or, s1_ltx, if_true, if_false, Nat.add_zero, Nat.zero_add,  d_leF, d_leT, d_ltF, d_ltT, d_eqF, d_eqT]
    · have e2 : (adT T t a b c).2.2.2 u r k = T.2.2.2 u r k := if_neg e
      rw [e2]
      simp (disch := omega) only [q_u2_s, ne_u2, nr_u2, fa_lit, nI_ltI, nI_leI, nI_eq, nI_add, pk_mul, nI_clamp, vp_in_nI, l_uk, l_n1, l_n1e, l_n1e2, l_n1l, l_n1l2, l_n1l3, not_true_eq_false, not_false_eq_true, true_implies, false_implies, true_and, and_true, and_self, forall_eq, bI_t, bI_f, Bool.false_eq_true, or_true, true_or, or_false, false_or, s1_ltx, if_true, if_false, Nat.add_zero, Nat.zero_add,  d_leF, d_leT, d_ltF, d_ltT, d_eqF, d_eqT]
      exact h0
  · simp (disch := omega) only [q_u2_s, ne_u2, nr_u2, fa_lit, nI_ltI, nI_leI, nI_eq, nI_add, pk_mul, nI_clamp, vp_in_nI, l_uk, l_n1, l_n1e, l_n1e2, l_n1l, l_n1l2, l_n1l3, not_true_eq_false, not_false_eq_true, true_implies, false_implies, true_and, and_true, and_self, forall_eq, bI_t, bI_f, Bool.false_eq_true, or_true, true_or, or_false, false_or, s1_ltx, if_true, if_false, Nat.add_zero, Nat.zero_add,  d_leF, d_leT, d_ltF, d_ltT, d_eqF, d_eqT]
  · simp (disch := omega) only [q_u2_s, ne_u2, nr_u2, fa_lit, nI_ltI, nI_leI, nI_eq, nI_add, pk_mul, nI_clamp, vp_in_nI, l_uk, l_n1, l_n1e, l_n1e2, l_n1l, l_n1l2, l_n1l3, not_true_eq_false, not_false_eq_true, true_implies, false_implies, true_and, and_true, and_self, forall_eq, bI_t, bI_f, Bool.false_eq_true, or_true, true_or, or_false, false_or, s1_ltx, if_true, if_false, Nat.add_zero, Nat.zero_add,  d_leF, d_leT, d_ltF, d_ltT, d_eqF, d_eqT]
