/-! pure: nodes: sort, first, second and one more, kind, column, extra, width -/
abbrev Nd : Type := Nat × Nat × Nat × Nat × Nat × Int32 × Nat
def nd (P : List Nd) (n : Nat) : Nd := P.getD n (0, 0, 0, 0, 0, 0, 0)
theorem nd_lt {P : List Nd} {q : Nd} {n : Nat} (h : n < P.length) : nd (P ++ [q]) n = nd P n := by
  unfold nd
  rw [List.getD_eq_getElem?_getD, List.getD_eq_getElem?_getD, List.getElem?_append_left h]
theorem nd_eq {P : List Nd} {q : Nd} : nd (P ++ [q]) P.length = q := by
  unfold nd
  rw [List.getD_eq_getElem?_getD, List.getElem?_append_right (Nat.le_refl _), Nat.sub_self]
  rfl
def sB (b : Nat) : Int32 := if b = 0 then N1 else nI (b - 1)
theorem sB_0 : sB 0 = N1 := rfl
theorem sB_s (b : Nat) : sB (b + 1) = nI b := rfl
theorem sB_inj {a b : Nat} (ha : a < 2 ^ 30) (hb : b < 2 ^ 30) : (sB a = sB b) = (a = b) := by
  refine propext ⟨fun h => ?_, fun h => by rw [h]⟩
  cases a with
  | zero =>
    cases b with
    | zero => rfl
    | succ b => rw [sB_0, sB_s, l_n1e2 (by omega)] at h; exact h.elim
  | succ a =>
    cases b with
    | zero => rw [sB_0, sB_s, l_n1e (by omega)] at h; exact h.elim
    | succ b => rw [sB_s, sB_s, nI_eq (by omega) (by omega)] at h; rw [h]
/-- the first below n -/
def srch (p : Nat → Bool) : Nat → Option Nat
  | 0 => none
  | n + 1 => match srch p n with
    | some i => some i
    | none => if p n then some n else none
theorem srch_n {p : Nat → Bool} : ∀ {n : Nat}, (∀ k, k < n → p k = false) → srch p n = none
  | 0, _ => rfl
  | n + 1, h => by
    rw [srch, srch_n (fun k hk => h k (by omega)), h n (by omega)]
    rfl
theorem srch_i {p : Nat → Bool} {i : Nat} (hp : p i = true) (hk : ∀ k, k < i → p k = false) : ∀ {n : Nat}, i < n → srch p n = some i
  | 0, h => absurd h (Nat.not_lt_zero i)
  | n + 1, h => by
    by_cases e : i = n
    · subst e
      rw [srch, srch_n hk, hp]
      rfl
    · rw [srch, srch_i hp hk (n := n) (by omega)]
theorem srch_ni {p : Nat → Bool} : ∀ {n : Nat}, srch p n = none → ∀ k, k < n → p k = false
  | 0, _, k, hk => absurd hk (Nat.not_lt_zero k)
  | n + 1, h, k, hk => by
    rw [srch] at h
    cases e : srch p n with
    | some i => rw [e] at h; cases h
    | none =>
      rw [e] at h
      by_cases e2 : k = n
      · subst e2
        cases hp : p k
        · rfl
        · rw [hp] at h; cases h
      · exact srch_ni e k (by omega)
theorem srch_si {p : Nat → Bool} : ∀ {n i : Nat}, srch p n = some i → i < n ∧ p i = true ∧ ∀ k, k < i → p k = false
  | 0, i, h => by cases h
  | n + 1, i, h => by
    rw [srch] at h
    cases e : srch p n with
    | some j =>
      rw [e] at h
      cases h
      obtain ⟨a, b, c⟩ := srch_si e
      exact ⟨by omega, b, c⟩
    | none =>
      rw [e] at h
      cases hp : p n
      · rw [hp] at h; cases h
      · rw [hp] at h
        cases h
        exact ⟨by omega, hp, srch_ni e⟩
def Pc (I : QI) (P : List Nd) : Prop := I 15 8 = nI P.length ∧ ∀ n, n < P.length → I 16 n = nI (nd P n).1 ∧ I 17 n = nI (nd P n).2.1 ∧ I 18 n = sB (nd P n).2.2.1 ∧ I 19 n = nI (nd P n).2.2.2.1 ∧ I 20 n = nI (nd P n).2.2.2.2.1 ∧ I 21 n = (nd P n).2.2.2.2.2.1 ∧ I 22 n = nI (nd P n).2.2.2.2.2.2
/-- small enough -/
def nB (q : Nd) : Prop := q.1 < 5 ∧ q.2.1 < 24 ∧ q.2.2.1 ≤ 24 ∧ q.2.2.2.1 < 6 ∧ q.2.2.2.2.1 < 6 ∧ 1 ≤ q.2.2.2.2.2.2 ∧ q.2.2.2.2.2.2 ≤ 6
def wd (T : QT) (P : List Nd) (q : Nd) : Nat := if q.1 = 0 then T.2.1 q.2.1 else if q.1 = 3 then 2 else if q.1 = 2 ∧ q.2.2.2.1 < 2 then (nd P q.2.1).2.2.2.2.2.2 + (nd P (q.2.2.1 - 1)).2.2.2.2.2.2 else (nd P q.2.1).2.2.2.2.2.2
/-- a node that fits those ahead of it -/
def nW (T : QT) (P : List Nd) (n : Nat) (q : Nd) : Prop := nB q ∧ q.2.2.2.2.2.2 = wd T P q ∧ (q.1 = 0 → q.2.1 < T.1 ∧ q.2.2.1 = 0 ∧ q.2.2.2.1 = 0 ∧ q.2.2.2.2.1 = 0 ∧ q.2.2.2.2.2.1 = 0) ∧ (q.1 ≠ 0 → q.2.1 < n) ∧
  (q.1 = 1 → q.2.2.1 = 0 ∧ q.2.2.2.2.1 < (nd P q.2.1).2.2.2.2.2.2 ∧ kv q.2.2.2.2.2.1 = true) ∧
  (q.1 = 2 → q.2.2.1 ≠ 0 ∧ q.2.2.1 - 1 < n ∧ q.2.2.2.1 < 5 ∧ q.2.2.2.2.1 < (nd P q.2.1).2.2.2.2.2.2 ∧ ∃ d : Nat, q.2.2.2.2.2.1 = nI d ∧ d < (nd P (q.2.2.1 - 1)).2.2.2.2.2.2) ∧
  (q.1 = 3 → q.2.2.1 = 0 ∧ q.2.2.2.1 < 5 ∧ q.2.2.2.2.1 < (nd P q.2.1).2.2.2.2.2.2 ∧ ∃ d : Nat, q.2.2.2.2.2.1 = nI d ∧ d < (nd P q.2.1).2.2.2.2.2.2) ∧
  (q.1 = 4 → q.2.2.1 ≠ 0 ∧ q.2.2.1 - 1 < n ∧ q.2.2.2.1 < 4 ∧ q.2.2.2.2.1 = 0 ∧ q.2.2.2.2.2.1 = 0 ∧ (nd P (q.2.2.1 - 1)).2.2.2.2.2.2 = (nd P q.2.1).2.2.2.2.2.2)
def Pw (T : QT) (P : List Nd) : Prop := P.length ≤ 24 ∧ ∀ n, n < P.length → nW T P n (nd P n)
section PL
variable {I : QI} {T : QT} {P : List Nd} {n : Nat} {post : Int32 → Prop}
theorem p_typeOf (hP : Pc I P) (hw : Pw T P) (hn : n < P.length) (h : post (nI (nd P n).1)) : wX2_typeOf (nI n) I post := by
  have h4 := hw.1
  unfold wX2_typeOf
  simp (disch := omega) only [hP.1, (hP.2 n hn).1, fa_lit, nI_ltI, nI_leI, nI_eq, nI_add, pk_mul, nI_clamp, vp_in_nI, l_uk, l_n1, l_n1e, l_n1e2, l_n1l, l_n1l2, l_n1l3, not_true_eq_false, not_false_eq_true, true_implies, false_implies, true_and, and_true, and_self, forall_eq, bI_t, bI_f, Bool.false_eq_true, or_true, true_or, or_false, false_or, s1_ltx, if_true, if_false, Nat.add_zero, Nat.zero_add,  d_leF, d_leT, d_ltF, d_ltT, d_eqF, d_eqT]
  exact h
theorem p_firstOf (hP : Pc I P) (hw : Pw T P) (hn : n < P.length) (h : post (nI (nd P n).2.1)) : wX2_firstOf (nI n) I post := by
  have h4 := hw.1
  unfold wX2_firstOf
  simp (disch := omega) only [hP.1, (hP.2 n hn).2.1, fa_lit, nI_ltI, nI_leI, nI_eq, nI_add, pk_mul, nI_clamp, vp_in_nI, l_uk, l_n1, l_n1e, l_n1e2, l_n1l, l_n1l2, l_n1l3, not_true_eq_false, not_false_eq_true, true_implies, false_implies, true_and, and_true, and_self, forall_eq, bI_t, bI_f, Bool.false_eq_true, or_true, true_or, or_false, false_or, s1_ltx, if_true, if_false, Nat.add_zero, Nat.zero_add,  d_leF, d_leT, d_ltF, d_ltT, d_eqF, d_eqT]
  exact h
theorem p_secondOf (hP : Pc I P) (hw : Pw T P) (hn : n < P.length) (h : post (sB (nd P n).2.2.1)) : wX2_secondOf (nI n) I post := by
  have h4 := hw.1
  unfold wX2_secondOf
  simp (disch := omega) only [hP.1, (hP.2 n hn).2.2.1, fa_lit, nI_ltI, nI_leI, nI_eq, nI_add, pk_mul, nI_clamp, vp_in_nI, l_uk, l_n1, l_n1e, l_n1e2, l_n1l, l_n1l2, l_n1l3, not_true_eq_false, not_false_eq_true, true_implies, false_implies, true_and, and_true, and_self, forall_eq, bI_t, bI_f, Bool.false_eq_true, or_true, true_or, or_false, false_or, s1_ltx, if_true, if_false, Nat.add_zero, Nat.zero_add,  d_leF, d_leT, d_ltF, d_ltT, d_eqF, d_eqT]
  exact h
theorem p_kindOf (hP : Pc I P) (hw : Pw T P) (hn : n < P.length) (h : post (nI (nd P n).2.2.2.1)) : wX2_kindOf (nI n) I post := by
  have h4 := hw.1
  unfold wX2_kindOf
  simp (disch := omega) only [hP.1, (hP.2 n hn).2.2.2.1, fa_lit, nI_ltI, nI_leI, nI_eq, nI_add, pk_mul, nI_clamp, vp_in_nI, l_uk, l_n1, l_n1e, l_n1e2, l_n1l, l_n1l2, l_n1l3, not_true_eq_false, not_false_eq_true, true_implies, false_implies, true_and, and_true, and_self, forall_eq, bI_t, bI_f, Bool.false_eq_true, or_true, true_or, or_false, false_or, s1_ltx, if_true, if_false, Nat.add_zero, Nat.zero_add,  d_leF, d_leT, d_ltF, d_ltT, d_eqF, d_eqT]
  exact h
theorem p_columnOf (hP : Pc I P) (hw : Pw T P) (hn : n < P.length) (h : post (nI (nd P n).2.2.2.2.1)) : wX2_columnOf (nI n) I post := by
  have h4 := hw.1
  unfold wX2_columnOf
  simp (disch := omega) only [hP.1, (hP.2 n hn).2.2.2.2.1, fa_lit, nI_ltI, nI_leI, nI_eq, nI_add, pk_mul, nI_clamp, vp_in_nI, l_uk, l_n1, l_n1e, l_n1e2, l_n1l, l_n1l2, l_n1l3, not_true_eq_false, not_false_eq_true, true_implies, false_implies, true_and, and_true, and_self, forall_eq, bI_t, bI_f, Bool.false_eq_true, or_true, true_or, or_false, false_or, s1_ltx, if_true, if_false, Nat.add_zero, Nat.zero_add,  d_leF, d_leT, d_ltF, d_ltT, d_eqF, d_eqT]
  exact h
theorem p_extraOf (hP : Pc I P) (hw : Pw T P) (hn : n < P.length) (h : post ((nd P n).2.2.2.2.2.1)) : wX2_extraOf (nI n) I post := by
  have h4 := hw.1
  unfold wX2_extraOf
  simp (disch := omega) only [hP.1, (hP.2 n hn).2.2.2.2.2.1, fa_lit, nI_ltI, nI_leI, nI_eq, nI_add, pk_mul, nI_clamp, vp_in_nI, l_uk, l_n1, l_n1e, l_n1e2, l_n1l, l_n1l2, l_n1l3, not_true_eq_false, not_false_eq_true, true_implies, false_implies, true_and, and_true, and_self, forall_eq, bI_t, bI_f, Bool.false_eq_true, or_true, true_or, or_false, false_or, s1_ltx, if_true, if_false, Nat.add_zero, Nat.zero_add,  d_leF, d_leT, d_ltF, d_ltT, d_eqF, d_eqT]
  exact h
theorem p_widthOf (hP : Pc I P) (hw : Pw T P) (hn : n < P.length) (h : post (nI (nd P n).2.2.2.2.2.2)) : wX2_widthOf (nI n) I post := by
  have h4 := hw.1
  unfold wX2_widthOf
  simp (disch := omega) only [hP.1, (hP.2 n hn).2.2.2.2.2.2, fa_lit, nI_ltI, nI_leI, nI_eq, nI_add, pk_mul, nI_clamp, vp_in_nI, l_uk, l_n1, l_n1e, l_n1e2, l_n1l, l_n1l2, l_n1l3, not_true_eq_false, not_false_eq_true, true_implies, false_implies, true_and, and_true, and_self, forall_eq, bI_t, bI_f, Bool.false_eq_true, or_true, true_or, or_false, false_or, s1_ltx, if_true, if_false, Nat.add_zero, Nat.zero_add,  d_leF, d_leT, d_ltF, d_ltT, d_eqF, d_eqT]
  exact h
theorem p_has (hP : Pc I P) (hw : Pw T P) (hn : n < P.length) (h : post (nI 1)) : wX2_has (nI n) I post := by
  have h4 := hw.1
  unfold wX2_has
  simp (disch := omega) only [hP.1, fa_lit, nI_ltI, nI_leI, nI_eq, nI_add, pk_mul, nI_clamp, vp_in_nI, l_uk, l_n1, l_n1e, l_n1e2, l_n1l, l_n1l2, l_n1l3, not_true_eq_false, not_false_eq_true, true_implies, false_implies, true_and, and_true, and_self, forall_eq, bI_t, bI_f, Bool.false_eq_true, or_true, true_or, or_false, false_or, s1_ltx, if_true, if_false, Nat.add_zero, Nat.zero_add,  d_leF, d_leT, d_ltF, d_ltT, d_eqF, d_eqT]
  exact h
theorem p_has_f {x : Int32} (hP : Pc I P) (hx : x < 0 ∨ nI P.length ≤ x) (h : post (nI 0)) : wX2_has x I post := by
  unfold wX2_has
  refine ⟨fun _ => h, fun e => ⟨fun _ => h, fun e2 => ?_⟩⟩
  rw [hP.1] at e2
  exact absurd hx (not_or.mpr ⟨e, e2⟩)
theorem p_widthOf_f {x : Int32} (hP : Pc I P) (hx : x < 0 ∨ nI P.length ≤ x) (h : post (nI 0)) : wX2_widthOf x I post := by
  unfold wX2_widthOf
  refine ⟨fun _ => h, fun e => ⟨fun _ => h, fun e2 => ?_⟩⟩
  rw [hP.1] at e2
  exact absurd hx (not_or.mpr ⟨e, e2⟩)
theorem p_secondOf_f {x : Int32} (hP : Pc I P) (hx : x < 0 ∨ nI P.length ≤ x) (h : post N1) : wX2_secondOf x I post := by
  unfold wX2_secondOf
  refine ⟨fun _ => h, fun e => ⟨fun _ => h, fun e2 => ?_⟩⟩
  rw [hP.1] at e2
  exact absurd hx (not_or.mpr ⟨e, e2⟩)
end PL
theorem p_widthMade {I : QI} {T : QT} {P : List Nd} (hT : Tc I T) (hwT : Tw T) (hP : Pc I P) (hw : Pw T P) {q : Nd} (hq : nW T P P.length q) {post : Int32 → Prop} (h : post (nI (wd T P q))) : wX2_widthMade (nI q.1) (nI q.2.1) (sB q.2.2.1) (nI q.2.2.2.1) I post := by
  obtain ⟨⟨b1, b2, b3, b4, b5, b6⟩, -, c0, c1, c2, c3, c4, c5⟩ := hq
  unfold wd at h
  unfold wX2_widthMade
  rcases (show q.1 = 0 ∨ q.1 = 3 ∨ q.1 = 2 ∨ (q.1 ≠ 0 ∧ q.1 ≠ 3 ∧ q.1 ≠ 2) by omega) with e | e | e | ⟨e1, e2, e3⟩
  · rw [if_pos e] at h
    simp (disch := omega) only [e, fa_lit, nI_ltI, nI_leI, nI_eq, nI_add, pk_mul, nI_clamp, vp_in_nI, l_uk, l_n1, l_n1e, l_n1e2, l_n1l, l_n1l2, l_n1l3, not_true_eq_false, not_false_eq_true, true_implies, false_implies, true_and, and_true, and_self, forall_eq, bI_t, bI_f, Bool.false_eq_true, or_true, true_or, or_false, false_or, s1_ltx, if_true, if_false, Nat.add_zero, Nat.zero_add,  d_leF, d_leT, d_ltF, d_ltT, d_eqF, d_eqT]
    refine find_t hT hwT (c0 e).1 (b_some ?_)
    unfold wX5_columns
    rw [(hT.t (hwT.l (c0 e).1).1).1]
    exact h
  · rw [if_neg (by omega), if_pos e] at h
    simp (disch := omega) only [e, fa_lit, nI_ltI, nI_leI, nI_eq, nI_add, pk_mul, nI_clamp, vp_in_nI, l_uk, l_n1, l_n1e, l_n1e2, l_n1l, l_n1l2, l_n1l3, not_true_eq_false, not_false_eq_true, true_implies, false_implies, true_and, and_true, and_self, forall_eq, bI_t, bI_f, Bool.false_eq_true, or_true, true_or, or_false, false_or, s1_ltx, if_true, if_false, Nat.add_zero, Nat.zero_add,  d_leF, d_leT, d_ltF, d_ltT, d_eqF, d_eqT]
    exact h
  · rw [if_neg (by omega), if_neg (by omega)] at h
    simp (disch := omega) only [e, fa_lit, nI_ltI, nI_leI, nI_eq, nI_add, pk_mul, nI_clamp, vp_in_nI, l_uk, l_n1, l_n1e, l_n1e2, l_n1l, l_n1l2, l_n1l3, not_true_eq_false, not_false_eq_true, true_implies, false_implies, true_and, and_true, and_self, forall_eq, bI_t, bI_f, Bool.false_eq_true, or_true, true_or, or_false, false_or, s1_ltx, if_true, if_false, Nat.add_zero, Nat.zero_add,  d_leF, d_leT, d_ltF, d_ltT, d_eqF, d_eqT]
    obtain ⟨d1, d2, -⟩ := c3 e
    have e9 : sB q.2.2.1 = nI (q.2.2.1 - 1) := if_neg d1
    rw [e9]
    have e8 := c1 (by omega)
    by_cases hk : q.2.2.2.1 < 2
    · rw [if_pos ⟨e, hk⟩] at h
      refine ⟨fun _ => ?_, fun h0 => ⟨fun h1 => ?_, fun _ => ?_⟩⟩
      · refine p_widthOf hP hw e8 (p_widthOf hP hw d2 ?_)
        rw [nI_add]
        exact h
      · omega
      · refine p_widthOf hP hw e8 (p_widthOf hP hw d2 ?_)
        rw [nI_add]
        exact h
    · rw [if_neg (by omega)] at h
      refine ⟨fun h0 => ?_, fun h0 => ⟨fun h1 => ?_, fun h1 => ?_⟩⟩
      · omega
      · exact p_widthOf hP hw e8 h
      · omega
  · rw [if_neg e1, if_neg e2, if_neg (by omega)] at h
    simp (disch := omega) only [fa_lit, nI_ltI, nI_leI, nI_eq, nI_add, pk_mul, nI_clamp, vp_in_nI, l_uk, l_n1, l_n1e, l_n1e2, l_n1l, l_n1l2, l_n1l3, not_true_eq_false, not_false_eq_true, true_implies, false_implies, true_and, and_true, and_self, forall_eq, bI_t, bI_f, Bool.false_eq_true, or_true, true_or, or_false, false_or, s1_ltx, if_true, if_false, Nat.add_zero, Nat.zero_add,  d_leF, d_leT, d_ltF, d_ltT, d_eqF, d_eqT]
    exact p_widthOf hP hw (c1 e1) h
def six (q : Nd) : Nat × Nat × Nat × Nat × Nat × Int32 := (q.1, q.2.1, q.2.2.1, q.2.2.2.1, q.2.2.2.2.1, q.2.2.2.2.2.1)
def fnd (P : List Nd) (q : Nd) : Option Nat := srch (fun n => decide (six (nd P n) = six q)) P.length
theorem six_iff (p q : Nd) : six p = six q ↔ p.1 = q.1 ∧ p.2.1 = q.2.1 ∧ p.2.2.1 = q.2.2.1 ∧ p.2.2.2.1 = q.2.2.2.1 ∧ p.2.2.2.2.1 = q.2.2.2.2.1 ∧ p.2.2.2.2.2.1 = q.2.2.2.2.2.1 := by
  simp only [six, Prod.mk.injEq]
theorem p_make_3 {I : QI} {T : QT} {P : List Nd} (hP : Pc I P) (hw : Pw T P) {q : Nd} (hq : nB q) {K : QI → Prop} {post : Int32 → QI → Prop} (h1 : ∀ i, i < P.length → fnd P q = some i → post (nI i) I) (h2 : fnd P q = none → K I) : ∃ f, wX2_make_3 (nI q.1) (nI q.2.1) (sB q.2.2.1) (nI q.2.2.2.1) (nI q.2.2.2.2.1) q.2.2.2.2.2.1 K post f 0 I := by
  have h24 := hw.1
  obtain ⟨b1, b2, b3, b4, b5, b6⟩ := hq
  refine lp (fun f i (_ : Unit) => wX2_make_3 (nI q.1) (nI q.2.1) (sB q.2.2.1) (nI q.2.2.2.1) (nI q.2.2.2.2.1) q.2.2.2.2.2.1 K post f (nI i) I) (fun i _ => ∀ k, k < i → six (nd P k) ≠ six q) P.length ?_ ?_ 0 () (Nat.zero_le _) (fun c hc => absurd hc (Nat.not_lt_zero c))
  · intro f _ hI
    have hn : fnd P q = none := srch_n (fun k hk => decide_eq_false (hI k hk))
    show wX2_make_3 _ _ _ _ _ _ _ _ _ _ _
    rw [wX2_make_3]
    simp (disch := omega) only [hP.1, fa_lit, nI_ltI, nI_leI, nI_eq, nI_add, pk_mul, nI_clamp, vp_in_nI, l_uk, l_n1, l_n1e, l_n1e2, l_n1l, l_n1l2, l_n1l3, not_true_eq_false, not_false_eq_true, true_implies, false_implies, true_and, and_true, and_self, forall_eq, bI_t, bI_f, Bool.false_eq_true, or_true, true_or, or_false, false_or, s1_ltx, if_true, if_false, Nat.add_zero, Nat.zero_add,  d_leF, d_leT, d_ltF, d_ltT, d_eqF, d_eqT]
    exact h2 hn
  · intro f i _ hi hI hk
    obtain ⟨⟨d1, d2, d3, d4, d5, d6⟩, -⟩ := hw.2 i hi
    obtain ⟨g1, g2, g3, g4, g5, g6, g7⟩ := hP.2 i hi
    show wX2_make_3 _ _ _ _ _ _ _ _ _ _ _
    rw [wX2_make_3]
    simp (disch := omega) only [hP.1, g1, g2, g3, g4, g5, g6, sB_inj, fa_lit, nI_ltI, nI_leI, nI_eq, nI_add, pk_mul, nI_clamp, vp_in_nI, l_uk, l_n1, l_n1e, l_n1e2, l_n1l, l_n1l2, l_n1l3, not_true_eq_false, not_false_eq_true, true_implies, false_implies, true_and, and_true, and_self, forall_eq, bI_t, bI_f, Bool.false_eq_true, or_true, true_or, or_false, false_or, s1_ltx, if_true, if_false, Nat.add_zero, Nat.zero_add,  d_leF, d_leT, d_ltF, d_ltT, d_eqF, d_eqT]
    have hno : six (nd P i) ≠ six q → wX2_make_3 (nI q.1) (nI q.2.1) (sB q.2.2.1) (nI q.2.2.2.1) (nI q.2.2.2.2.1) q.2.2.2.2.2.1 K post f (nI (i + 1)) I := fun e => hk () (fun k hk2 => by
      by_cases e2 : k = i
      · subst e2; exact e
      · exact hI k (by omega))
    rw [ne_eq, six_iff] at hno
    refine ⟨fun e => hno (fun z => e z.1), fun e1 => ⟨fun e => hno (fun z => e z.2.1), fun e2 => ⟨fun e => hno (fun z => e z.2.2.1), fun e3 => ⟨fun e => hno (fun z => e z.2.2.2.1), fun e4 => ⟨fun e => hno (fun z => e z.2.2.2.2.1), fun e5 => ⟨fun e => hno (fun z => e z.2.2.2.2.2), fun e6 => ?_⟩⟩⟩⟩⟩⟩
    exact h1 i hi (srch_i (decide_eq_true ((six_iff _ _).mpr ⟨e1, e2, e3, e4, e5, e6⟩)) (fun k hk2 => decide_eq_false (hI k hk2)) hi)
theorem p_make {I : QI} {T : QT} {P : List Nd} (hT : Tc I T) (hwT : Tw T) (hP : Pc I P) (hw : Pw T P) {q : Nd} (hq : nW T P P.length q) {post : Int32 → QI → Prop} (h1 : ∀ i, i < P.length → fnd P q = some i → post (nI i) I) (h2 : fnd P q = none → P.length = 24 → post N1 I) (h3 : fnd P q = none → P.length < 24 → ∀ I2 : QI, Pc I2 (P ++ [q]) → (∀ b, b < 15 ∨ 23 ≤ b → I2 b = I b) → post (nI P.length) I2) : wX2_make (nI q.1) (nI q.2.1) (sB q.2.2.1) (nI q.2.2.2.1) (nI q.2.2.2.2.1) q.2.2.2.2.2.1 I post := by
  have h24 := hw.1
  obtain ⟨b1, b2, b3, b4, b5, b6⟩ := hq.1
  unfold wX2_make
  refine p_make_3 hP hw hq.1 h1 (fun hn => ?_)
  by_cases hc : P.length < 24
  · simp (disch := omega) only [hP.1, q_u2_s, ne_u2, nr_u2, fa_lit, nI_ltI, nI_leI, nI_eq, nI_add, pk_mul, nI_clamp, vp_in_nI, l_uk, l_n1, l_n1e, l_n1e2, l_n1l, l_n1l2, l_n1l3, not_true_eq_false, not_false_eq_true, true_implies, false_implies, true_and, and_true, and_self, forall_eq, bI_t, bI_f, Bool.false_eq_true, or_true, true_or, or_false, false_or, s1_ltx, if_true, if_false, Nat.add_zero, Nat.zero_add,  d_leF, d_leT, d_ltF, d_ltT, d_eqF, d_eqT]
    refine p_widthMade (P := P) (T := T) ⟨?_, fun u hu => ⟨?_, ?_, fun r k hr hk => ?_⟩⟩ hwT ⟨?_, fun n hn => ?_⟩ hw hq ?_
    · simp (disch := omega) only [hT.1, q_u2_s, ne_u2, nr_u2, fa_lit, nI_ltI, nI_leI, nI_eq, nI_add, pk_mul, nI_clamp, vp_in_nI, l_uk, l_n1, l_n1e, l_n1e2, l_n1l, l_n1l2, l_n1l3, not_true_eq_false, not_false_eq_true, true_implies, false_implies, true_and, and_true, and_self, forall_eq, bI_t, bI_f, Bool.false_eq_true, or_true, true_or, or_false, false_or, s1_ltx, if_true, if_false, Nat.add_zero, Nat.zero_add,  d_leF, d_leT, d_ltF, d_ltT, d_eqF, d_eqT]
    · simp (disch := omega) only [(hT.t hu).1, q_u2_s, ne_u2, nr_u2, fa_lit, nI_ltI, nI_leI, nI_eq, nI_add, pk_mul, nI_clamp, vp_in_nI, l_uk, l_n1, l_n1e, l_n1e2, l_n1l, l_n1l2, l_n1l3, not_true_eq_false, not_false_eq_true, true_implies, false_implies, true_and, and_true, and_self, forall_eq, bI_t, bI_f, Bool.false_eq_true, or_true, true_or, or_false, false_or, s1_ltx, if_true, if_false, Nat.add_zero, Nat.zero_add,  d_leF, d_leT, d_ltF, d_ltT, d_eqF, d_eqT]
    · simp (disch := omega) only [(hT.t hu).2, q_u2_s, ne_u2, nr_u2, fa_lit, nI_ltI, nI_leI, nI_eq, nI_add, pk_mul, nI_clamp, vp_in_nI, l_uk, l_n1, l_n1e, l_n1e2, l_n1l, l_n1l2, l_n1l3, not_true_eq_false, not_false_eq_true, true_implies, false_implies, true_and, and_true, and_self, forall_eq, bI_t, bI_f, Bool.false_eq_true, or_true, true_or, or_false, false_or, s1_ltx, if_true, if_false, Nat.add_zero, Nat.zero_add,  d_leF, d_leT, d_ltF, d_ltT, d_eqF, d_eqT]
    · simp (disch := omega) only [(hT.2 u hu).2.2 r k hr hk, q_u2_s, ne_u2, nr_u2, fa_lit, nI_ltI, nI_leI, nI_eq, nI_add, pk_mul, nI_clamp, vp_in_nI, l_uk, l_n1, l_n1e, l_n1e2, l_n1l, l_n1l2, l_n1l3, not_true_eq_false, not_false_eq_true, true_implies, false_implies, true_and, and_true, and_self, forall_eq, bI_t, bI_f, Bool.false_eq_true, or_true, true_or, or_false, false_or, s1_ltx, if_true, if_false, Nat.add_zero, Nat.zero_add,  d_leF, d_leT, d_ltF, d_ltT, d_eqF, d_eqT]
    · simp (disch := omega) only [hP.1, q_u2_s, ne_u2, nr_u2, fa_lit, nI_ltI, nI_leI, nI_eq, nI_add, pk_mul, nI_clamp, vp_in_nI, l_uk, l_n1, l_n1e, l_n1e2, l_n1l, l_n1l2, l_n1l3, not_true_eq_false, not_false_eq_true, true_implies, false_implies, true_and, and_true, and_self, forall_eq, bI_t, bI_f, Bool.false_eq_true, or_true, true_or, or_false, false_or, s1_ltx, if_true, if_false, Nat.add_zero, Nat.zero_add,  d_leF, d_leT, d_ltF, d_ltT, d_eqF, d_eqT]
    · simp (disch := omega) only [hP.2 n hn, q_u2_s, ne_u2, nr_u2, fa_lit, nI_ltI, nI_leI, nI_eq, nI_add, pk_mul, nI_clamp, vp_in_nI, l_uk, l_n1, l_n1e, l_n1e2, l_n1l, l_n1l2, l_n1l3, not_true_eq_false, not_false_eq_true, true_implies, false_implies, true_and, and_true, and_self, forall_eq, bI_t, bI_f, Bool.false_eq_true, or_true, true_or, or_false, false_or, s1_ltx, if_true, if_false, Nat.add_zero, Nat.zero_add,  d_leF, d_leT, d_ltF, d_ltT, d_eqF, d_eqT]
    · skip
      have e9 : nI (P.length + 1) - nI 1 = nI P.length := by rw [pk_sub (by omega)]; rfl
      rw [e9]
      refine h3 hn hc _ ⟨?_, fun n hn => ?_⟩ (fun b hb => ?_)
      · rw [List.length_append]
        exact q_u2_s _ _ _ _
      · rw [List.length_append] at hn
        have hn2 : n < P.length + 1 := hn
        by_cases e : n = P.length
        · subst e
          rw [nd_eq]
          simp (disch := omega) only [q_u2_s, ne_u2, nr_u2, fa_lit, nI_ltI, nI_leI, nI_eq, nI_add, pk_mul, nI_clamp, vp_in_nI, l_uk, l_n1, l_n1e, l_n1e2, l_n1l, l_n1l2, l_n1l3, not_true_eq_false, not_false_eq_true, true_implies, false_implies, true_and, and_true, and_self, forall_eq, bI_t, bI_f, Bool.false_eq_true, or_true, true_or, or_false, false_or, s1_ltx, if_true, if_false, Nat.add_zero, Nat.zero_add,  d_leF, d_leT, d_ltF, d_ltT, d_eqF, d_eqT]
          rw [hq.2.1]
        · rw [nd_lt (by omega)]
          simp (disch := omega) only [hP.2 n (by omega), q_u2_s, ne_u2, nr_u2, fa_lit, nI_ltI, nI_leI, nI_eq, nI_add, pk_mul, nI_clamp, vp_in_nI, l_uk, l_n1, l_n1e, l_n1e2, l_n1l, l_n1l2, l_n1l3, not_true_eq_false, not_false_eq_true, true_implies, false_implies, true_and, and_true, and_self, forall_eq, bI_t, bI_f, Bool.false_eq_true, or_true, true_or, or_false, false_or, s1_ltx, if_true, if_false, Nat.add_zero, Nat.zero_add,  d_leF, d_leT, d_ltF, d_ltT, d_eqF, d_eqT]
      · simp (disch := omega) only [q_u2_s, ne_u2, nr_u2, fa_lit, nI_ltI, nI_leI, nI_eq, nI_add, pk_mul, nI_clamp, vp_in_nI, l_uk, l_n1, l_n1e, l_n1e2, l_n1l, l_n1l2, l_n1l3, not_true_eq_false, not_false_eq_true, true_implies, false_implies, true_and, and_true, and_self, forall_eq, bI_t, bI_f, Bool.false_eq_true, or_true, true_or, or_false, false_or, s1_ltx, if_true, if_false, Nat.add_zero, Nat.zero_add,  d_leF, d_leT, d_ltF, d_ltT, d_eqF, d_eqT]
  · simp (disch := omega) only [hP.1, fa_lit, nI_ltI, nI_leI, nI_eq, nI_add, pk_mul, nI_clamp, vp_in_nI, l_uk, l_n1, l_n1e, l_n1e2, l_n1l, l_n1l2, l_n1l3, not_true_eq_false, not_false_eq_true, true_implies, false_implies, true_and, and_true, and_self, forall_eq, bI_t, bI_f, Bool.false_eq_true, or_true, true_or, or_false, false_or, s1_ltx, if_true, if_false, Nat.add_zero, Nat.zero_add,  d_leF, d_leT, d_ltF, d_ltT, d_eqF, d_eqT]
    exact h2 hn (by omega)
