/-! pure: the reference's small methods -/
theorem Tm.t {I : QI} {T : QT} (hT : Tm I T) {t : Nat} (ht : t < 4) : I 52 t = nI (T.2.1 t) ∧ I 53 t = nI (T.2.2.1 t) := ⟨(hT.2 t ht).1, (hT.2 t ht).2.1⟩
section MD
variable {I : QI} {T : QT} {t : Nat} {x : Int32} {post : Int32 → Prop}
theorem m_isTable (hT : Tm I T) (hw : Tw T) (ht : t < T.1) (h : post (nI 1)) : wX8_isTable (nI t) I post := by
  have h4 := hw.1
  unfold wX8_isTable wX8_in
  simp (disch := omega) only [hT.1, fa_lit, nI_ltI, nI_leI, nI_eq, nI_add, pk_mul, nI_clamp, vp_in_nI, l_uk, l_n1, l_n1e, l_n1e2, l_n1l, l_n1l2, l_n1l3, not_true_eq_false, not_false_eq_true, true_implies, false_implies, true_and, and_true, and_self, forall_eq, bI_t, bI_f, Bool.false_eq_true, or_true, true_or, or_false, false_or, s1_ltx, if_true, if_false, Nat.add_zero, Nat.zero_add,  d_leF, d_leT, d_ltF, d_ltT, d_eqF, d_eqT]
  exact h
theorem m_isTable_f (hT : Tm I T) (hw : Tw T) (hx : x < 0 ∨ nI T.1 ≤ x) (h : post (nI 0)) : wX8_isTable x I post := by
  have h4 := hw.1
  unfold wX8_isTable wX8_in
  simp (disch := omega) only [hT.1, fa_lit, nI_ltI, nI_leI, nI_eq, nI_add, pk_mul, nI_clamp, vp_in_nI, l_uk, l_n1, l_n1e, l_n1e2, l_n1l, l_n1l2, l_n1l3, not_true_eq_false, not_false_eq_true, true_implies, false_implies, true_and, and_true, and_self, forall_eq, bI_t, bI_f, Bool.false_eq_true, or_true, true_or, or_false, false_or, s1_ltx, if_true, if_false, Nat.add_zero, Nat.zero_add,  d_leF, d_leT, d_ltF, d_ltT, d_eqF, d_eqT]
  refine ⟨fun _ => h, fun e => ⟨fun _ => h, fun e2 => ?_⟩⟩
  exact absurd hx (not_or.mpr ⟨e, e2⟩)
theorem m_isColumn {c : Nat} (hT : Tm I T) (hw : Tw T) (ht : t < T.1) (hc : c < T.2.1 t) (h : post (nI 1)) : wX8_isColumn (nI t) (nI c) I post := by
  obtain ⟨t4, w3, m10, w1⟩ := hw.l ht
  unfold wX8_isColumn
  refine m_isTable hT hw ht ?_
  unfold wX8_in
  simp (disch := omega) only [(hT.t t4).1, fa_lit, nI_ltI, nI_leI, nI_eq, nI_add, pk_mul, nI_clamp, vp_in_nI, l_uk, l_n1, l_n1e, l_n1e2, l_n1l, l_n1l2, l_n1l3, not_true_eq_false, not_false_eq_true, true_implies, false_implies, true_and, and_true, and_self, forall_eq, bI_t, bI_f, Bool.false_eq_true, or_true, true_or, or_false, false_or, s1_ltx, if_true, if_false, Nat.add_zero, Nat.zero_add,  d_leF, d_leT, d_ltF, d_ltT, d_eqF, d_eqT]
  exact h
theorem m_isColumn_f1 {y : Int32} (hT : Tm I T) (hw : Tw T) (hx : x < 0 ∨ nI T.1 ≤ x) (h : post (nI 0)) : wX8_isColumn x y I post := by
  unfold wX8_isColumn
  refine m_isTable_f hT hw hx ?_
  simp (disch := omega) only [fa_lit, nI_ltI, nI_leI, nI_eq, nI_add, pk_mul, nI_clamp, vp_in_nI, l_uk, l_n1, l_n1e, l_n1e2, l_n1l, l_n1l2, l_n1l3, not_true_eq_false, not_false_eq_true, true_implies, false_implies, true_and, and_true, and_self, forall_eq, bI_t, bI_f, Bool.false_eq_true, or_true, true_or, or_false, false_or, s1_ltx, if_true, if_false, Nat.add_zero, Nat.zero_add,  d_leF, d_leT, d_ltF, d_ltT, d_eqF, d_eqT]
  exact h
theorem m_isColumn_f2 (hT : Tm I T) (hw : Tw T) (ht : t < T.1) (hx : x < 0 ∨ nI (T.2.1 t) ≤ x) (h : post (nI 0)) : wX8_isColumn (nI t) x I post := by
  obtain ⟨t4, w3, m10, w1⟩ := hw.l ht
  unfold wX8_isColumn
  refine m_isTable hT hw ht ?_
  unfold wX8_in
  simp (disch := omega) only [(hT.t t4).1, fa_lit, nI_ltI, nI_leI, nI_eq, nI_add, pk_mul, nI_clamp, vp_in_nI, l_uk, l_n1, l_n1e, l_n1e2, l_n1l, l_n1l2, l_n1l3, not_true_eq_false, not_false_eq_true, true_implies, false_implies, true_and, and_true, and_self, forall_eq, bI_t, bI_f, Bool.false_eq_true, or_true, true_or, or_false, false_or, s1_ltx, if_true, if_false, Nat.add_zero, Nat.zero_add,  d_leF, d_leT, d_ltF, d_ltT, d_eqF, d_eqT]
  refine ⟨fun _ => h, fun e => ⟨fun _ => h, fun e2 => ?_⟩⟩
  exact absurd hx (not_or.mpr ⟨e, e2⟩)
theorem m_at {r c : Nat} (hT : Tm I T) (ht : t < 4) (hr : r < 10) (hc : c < 3) (h : post (T.2.2.2 t r c)) : wX8_at (nI t) (nI r) (nI c) I post := by
  unfold wX8_at
  simp (disch := omega) only [fa_lit, nI_ltI, nI_leI, nI_eq, nI_add, pk_mul, nI_clamp, vp_in_nI, l_uk, l_n1, l_n1e, l_n1e2, l_n1l, l_n1l2, l_n1l3, not_true_eq_false, not_false_eq_true, true_implies, false_implies, true_and, and_true, and_self, forall_eq, bI_t, bI_f, Bool.false_eq_true, or_true, true_or, or_false, false_or, s1_ltx, if_true, if_false, Nat.add_zero, Nat.zero_add,  d_leF, d_leT, d_ltF, d_ltT, d_eqF, d_eqT]
  have e : (10 * t + r) * 3 + c = 30 * t + 3 * r + c := by omega
  rw [e, (hT.2 t ht).2.2 r c hr hc]
  exact h
theorem m_isValue (h : post (bI (okv x))) : wX8_isValue x I post := by
  unfold wX8_isValue wX8_in
  refine ⟨fun e => ?_, fun e => ⟨fun e1 => ?_, fun e1 => ⟨fun e2 => ?_, fun e2 => ?_⟩⟩⟩
  · have e3 : okv x = true := by unfold okv; rw [decide_eq_true (show x = UK from e)]; rfl
    rw [e3] at h
    exact h
  · have e3 : okv x = false := by unfold okv kv; rw [decide_eq_false (show ¬ x = UK from e), decide_eq_false (fun z => z.1 e1)]; rfl
    rw [e3] at h
    simp (disch := omega) only [fa_lit, nI_ltI, nI_leI, nI_eq, nI_add, pk_mul, nI_clamp, vp_in_nI, l_uk, l_n1, l_n1e, l_n1e2, l_n1l, l_n1l2, l_n1l3, not_true_eq_false, not_false_eq_true, true_implies, false_implies, true_and, and_true, and_self, forall_eq, bI_t, bI_f, Bool.false_eq_true, or_true, true_or, or_false, false_or, s1_ltx, if_true, if_false, Nat.add_zero, Nat.zero_add,  d_leF, d_leT, d_ltF, d_ltT, d_eqF, d_eqT]
    exact h
  · have e3 : okv x = false := by unfold okv kv; rw [decide_eq_false (show ¬ x = UK from e), decide_eq_false (fun z => z.2 e2)]; rfl
    rw [e3] at h
    simp (disch := omega) only [fa_lit, nI_ltI, nI_leI, nI_eq, nI_add, pk_mul, nI_clamp, vp_in_nI, l_uk, l_n1, l_n1e, l_n1e2, l_n1l, l_n1l2, l_n1l3, not_true_eq_false, not_false_eq_true, true_implies, false_implies, true_and, and_true, and_self, forall_eq, bI_t, bI_f, Bool.false_eq_true, or_true, true_or, or_false, false_or, s1_ltx, if_true, if_false, Nat.add_zero, Nat.zero_add,  d_leF, d_leT, d_ltF, d_ltT, d_eqF, d_eqT]
    exact h
  · have e3 : okv x = true := by unfold okv kv; rw [decide_eq_false (show ¬ x = UK from e), decide_eq_true ⟨e1, e2⟩]; rfl
    rw [e3] at h
    simp (disch := omega) only [fa_lit, nI_ltI, nI_leI, nI_eq, nI_add, pk_mul, nI_clamp, vp_in_nI, l_uk, l_n1, l_n1e, l_n1e2, l_n1l, l_n1l2, l_n1l3, not_true_eq_false, not_false_eq_true, true_implies, false_implies, true_and, and_true, and_self, forall_eq, bI_t, bI_f, Bool.false_eq_true, or_true, true_or, or_false, false_or, s1_ltx, if_true, if_false, Nat.add_zero, Nat.zero_add,  d_leF, d_leT, d_ltF, d_ltT, d_eqF, d_eqT]
    exact h
end MD
def o1 (q : Nd) : Int32 := if q.1 = 0 ∨ q.1 = 4 then nI q.2.2.2.1 else nI q.2.2.2.2.1
def o2 (q : Nd) : Int32 := if q.1 = 2 then q.2.2.2.2.2.1 else if q.1 = 1 ∨ q.1 = 3 then nI q.2.2.2.1 else nI q.2.2.2.2.1
def o3 (q : Nd) : Int32 := if q.1 = 2 then nI q.2.2.2.1 else q.2.2.2.2.2.1
def Pm (I : QI) (P : List Nd) : Prop := I 51 5 = nI P.length ∧ ∀ n, n < P.length → I 55 n = nI (nd P n).1 ∧ I 56 n = nI (nd P n).2.1 ∧ I 57 n = sB (nd P n).2.2.1 ∧ I 58 n = o1 (nd P n) ∧ I 59 n = o2 (nd P n) ∧ I 60 n = o3 (nd P n) ∧ I 61 n = nI (nd P n).2.2.2.2.2.2
theorem o_iff {p q : Nd} (hp : nB p) (hq : nB q) (h : p.1 = q.1) : (o1 p = o1 q ∧ o2 p = o2 q ∧ o3 p = o3 q) ↔ (p.2.2.2.1 = q.2.2.2.1 ∧ p.2.2.2.2.1 = q.2.2.2.2.1 ∧ p.2.2.2.2.2.1 = q.2.2.2.2.2.1) := by
  obtain ⟨a1, a2, a3, a4, a5, a6⟩ := hp
  obtain ⟨b1, b2, b3, b4, b5, b6⟩ := hq
  unfold o1 o2 o3
  rw [h]
  rcases (show q.1 = 0 ∨ q.1 = 1 ∨ q.1 = 2 ∨ q.1 = 3 ∨ q.1 = 4 by omega) with e | e | e | e | e
  · simp (disch := omega) [e, nI_eq]
  · simp (disch := omega) [e, nI_eq, and_left_comm]
  · simp (disch := omega) [e, nI_eq]
    constructor
    · exact fun z => ⟨z.2.2, z.1, z.2.1⟩
    · exact fun z => ⟨z.2.1, z.2.2, z.1⟩
  · simp (disch := omega) [e, nI_eq, and_left_comm]
  · simp (disch := omega) [e, nI_eq]
section MP
variable {I : QI} {T : QT} {P : List Nd} {n : Nat} {x : Int32} {post : Int32 → Prop}
theorem m_isNode (hP : Pm I P) (hw : Pw T P) (hn : n < P.length) (h : post (nI 1)) : wX8_isNode (nI n) I post := by
  have h4 := hw.1
  unfold wX8_isNode wX8_in
  simp (disch := omega) only [hP.1, fa_lit, nI_ltI, nI_leI, nI_eq, nI_add, pk_mul, nI_clamp, vp_in_nI, l_uk, l_n1, l_n1e, l_n1e2, l_n1l, l_n1l2, l_n1l3, not_true_eq_false, not_false_eq_true, true_implies, false_implies, true_and, and_true, and_self, forall_eq, bI_t, bI_f, Bool.false_eq_true, or_true, true_or, or_false, false_or, s1_ltx, if_true, if_false, Nat.add_zero, Nat.zero_add,  d_leF, d_leT, d_ltF, d_ltT, d_eqF, d_eqT]
  exact h
theorem m_isNode_f (hP : Pm I P) (hw : Pw T P) (hx : x < 0 ∨ nI P.length ≤ x) (h : post (nI 0)) : wX8_isNode x I post := by
  have h4 := hw.1
  unfold wX8_isNode wX8_in
  simp (disch := omega) only [hP.1, fa_lit, nI_ltI, nI_leI, nI_eq, nI_add, pk_mul, nI_clamp, vp_in_nI, l_uk, l_n1, l_n1e, l_n1e2, l_n1l, l_n1l2, l_n1l3, not_true_eq_false, not_false_eq_true, true_implies, false_implies, true_and, and_true, and_self, forall_eq, bI_t, bI_f, Bool.false_eq_true, or_true, true_or, or_false, false_or, s1_ltx, if_true, if_false, Nat.add_zero, Nat.zero_add,  d_leF, d_leT, d_ltF, d_ltT, d_eqF, d_eqT]
  refine ⟨fun _ => h, fun e => ⟨fun _ => h, fun e2 => ?_⟩⟩
  exact absurd hx (not_or.mpr ⟨e, e2⟩)
theorem m_isNodeColumn {c : Nat} (hP : Pm I P) (hw : Pw T P) (hn : n < P.length) (hc : c < (nd P n).2.2.2.2.2.2) (h : post (nI 1)) : wX8_isNodeColumn (nI n) (nI c) I post := by
  have h4 := hw.1
  obtain ⟨⟨b1, b2, b3, b4, b5, b6, b7⟩, -⟩ := hw.2 n hn
  unfold wX8_isNodeColumn
  refine m_isNode hP hw hn ?_
  unfold wX8_in
  simp (disch := omega) only [(hP.2 n hn).2.2.2.2.2.2, fa_lit, nI_ltI, nI_leI, nI_eq, nI_add, pk_mul, nI_clamp, vp_in_nI, l_uk, l_n1, l_n1e, l_n1e2, l_n1l, l_n1l2, l_n1l3, not_true_eq_false, not_false_eq_true, true_implies, false_implies, true_and, and_true, and_self, forall_eq, bI_t, bI_f, Bool.false_eq_true, or_true, true_or, or_false, false_or, s1_ltx, if_true, if_false, Nat.add_zero, Nat.zero_add,  d_leF, d_leT, d_ltF, d_ltT, d_eqF, d_eqT]
  exact h
theorem m_isNodeColumn_f1 {y : Int32} (hP : Pm I P) (hw : Pw T P) (hx : x < 0 ∨ nI P.length ≤ x) (h : post (nI 0)) : wX8_isNodeColumn x y I post := by
  unfold wX8_isNodeColumn
  refine m_isNode_f hP hw hx ?_
  simp (disch := omega) only [fa_lit, nI_ltI, nI_leI, nI_eq, nI_add, pk_mul, nI_clamp, vp_in_nI, l_uk, l_n1, l_n1e, l_n1e2, l_n1l, l_n1l2, l_n1l3, not_true_eq_false, not_false_eq_true, true_implies, false_implies, true_and, and_true, and_self, forall_eq, bI_t, bI_f, Bool.false_eq_true, or_true, true_or, or_false, false_or, s1_ltx, if_true, if_false, Nat.add_zero, Nat.zero_add,  d_leF, d_leT, d_ltF, d_ltT, d_eqF, d_eqT]
  exact h
theorem m_isNodeColumn_f2 (hP : Pm I P) (hw : Pw T P) (hn : n < P.length) (hx : x < 0 ∨ nI (nd P n).2.2.2.2.2.2 ≤ x) (h : post (nI 0)) : wX8_isNodeColumn (nI n) x I post := by
  have h4 := hw.1
  obtain ⟨⟨b1, b2, b3, b4, b5, b6, b7⟩, -⟩ := hw.2 n hn
  unfold wX8_isNodeColumn
  refine m_isNode hP hw hn ?_
  unfold wX8_in
  simp (disch := omega) only [(hP.2 n hn).2.2.2.2.2.2, fa_lit, nI_ltI, nI_leI, nI_eq, nI_add, pk_mul, nI_clamp, vp_in_nI, l_uk, l_n1, l_n1e, l_n1e2, l_n1l, l_n1l2, l_n1l3, not_true_eq_false, not_false_eq_true, true_implies, false_implies, true_and, and_true, and_self, forall_eq, bI_t, bI_f, Bool.false_eq_true, or_true, true_or, or_false, false_or, s1_ltx, if_true, if_false, Nat.add_zero, Nat.zero_add,  d_leF, d_leT, d_ltF, d_ltT, d_eqF, d_eqT]
  refine ⟨fun _ => h, fun e => ⟨fun _ => h, fun e2 => ?_⟩⟩
  exact absurd hx (not_or.mpr ⟨e, e2⟩)
end MP
theorem m_find {I : QI} {T : QT} {P : List Nd} (hP : Pm I P) (hw : Pw T P) {q : Nd} (hq : nB q) {post : Int32 → Prop} (h1 : ∀ i, i < P.length → fnd P q = some i → post (nI i)) (h2 : fnd P q = none → post N1) : wX8_find (nI q.1) (nI q.2.1) (sB q.2.2.1) (o1 q) (o2 q) (o3 q) I post := by
  have h24 := hw.1
  have hqB := hq
  obtain ⟨b1, b2, b3, b4, b5, b6⟩ := hq
  unfold wX8_find
  refine lp (fun f i (_ : Unit) => wX8_find_3 (nI q.1) (nI q.2.1) (sB q.2.2.1) (o1 q) (o2 q) (o3 q) I post f (nI i)) (fun i _ => ∀ k, k < i → six (nd P k) ≠ six q) P.length ?_ ?_ 0 () (Nat.zero_le _) (fun c hc => absurd hc (Nat.not_lt_zero c))
  · intro f _ hI
    have hn : fnd P q = none := srch_n (fun k hk => decide_eq_false (hI k hk))
    show wX8_find_3 _ _ _ _ _ _ _ _ _ _
    rw [wX8_find_3]
    simp (disch := omega) only [hP.1, fa_lit, nI_ltI, nI_leI, nI_eq, nI_add, pk_mul, nI_clamp, vp_in_nI, l_uk, l_n1, l_n1e, l_n1e2, l_n1l, l_n1l2, l_n1l3, not_true_eq_false, not_false_eq_true, true_implies, false_implies, true_and, and_true, and_self, forall_eq, bI_t, bI_f, Bool.false_eq_true, or_true, true_or, or_false, false_or, s1_ltx, if_true, if_false, Nat.add_zero, Nat.zero_add,  d_leF, d_leT, d_ltF, d_ltT, d_eqF, d_eqT]
    exact h2 hn
  · intro f i _ hi hI hk
    have hdB := (hw.2 i hi).1
    obtain ⟨⟨d1, d2, d3, d4, d5, d6⟩, -⟩ := hw.2 i hi
    obtain ⟨g1, g2, g3, g4, g5, g6, g7⟩ := hP.2 i hi
    show wX8_find_3 _ _ _ _ _ _ _ _ _ _
    rw [wX8_find_3]
    simp (disch := omega) only [hP.1, g1, g2, g3, g4, g5, g6, sB_inj, fa_lit, nI_ltI, nI_leI, nI_eq, nI_add, pk_mul, nI_clamp, vp_in_nI, l_uk, l_n1, l_n1e, l_n1e2, l_n1l, l_n1l2, l_n1l3, not_true_eq_false, not_false_eq_true, true_implies, false_implies, true_and, and_true, and_self, forall_eq, bI_t, bI_f, Bool.false_eq_true, or_true, true_or, or_false, false_or, s1_ltx, if_true, if_false, Nat.add_zero, Nat.zero_add,  d_leF, d_leT, d_ltF, d_ltT, d_eqF, d_eqT]
    have hno : six (nd P i) ≠ six q → wX8_find_3 (nI q.1) (nI q.2.1) (sB q.2.2.1) (o1 q) (o2 q) (o3 q) I post f (nI (i + 1)) := fun e => hk () (fun k hk2 => by
      by_cases e2 : k = i
      · subst e2; exact e
      · exact hI k (by omega))
    rw [ne_eq, six_iff] at hno
    have key : (nd P i).1 = q.1 → ((nd P i).2.2.2.1 = q.2.2.2.1 ∧ (nd P i).2.2.2.2.1 = q.2.2.2.2.1 ∧ (nd P i).2.2.2.2.2.1 = q.2.2.2.2.2.1) → o1 (nd P i) = o1 q ∧ o2 (nd P i) = o2 q ∧ o3 (nd P i) = o3 q := fun e z => (o_iff hdB hqB e).mpr z
    refine ⟨fun e => hno (fun z => e z.1), fun e1 => ⟨fun e => hno (fun z => e z.2.1), fun e2 => ⟨fun e => hno (fun z => e z.2.2.1), fun e3 => ⟨fun e => hno (fun z => e (key z.1 z.2.2.2).1), fun e4 => ⟨fun e => hno (fun z => e (key z.1 z.2.2.2).2.1), fun e5 => ⟨fun e => hno (fun z => e (key z.1 z.2.2.2).2.2), fun e6 => ?_⟩⟩⟩⟩⟩⟩
    have e7 := (o_iff hdB hqB e1).mp ⟨e4, e5, e6⟩
    exact h1 i hi (srch_i (decide_eq_true ((six_iff _ _).mpr ⟨e1, e2, e3, e7⟩)) (fun k hk2 => decide_eq_false (hI k hk2)) hi)
theorem o3_j {q : Nd} (h : q.1 = 2) : o3 q = nI q.2.2.2.1 := if_pos h
theorem m_lay {I : QI} {T : QT} {P : List Nd} (hT : Tm I T) (hwT : Tw T) (hP : Pm I P) (hw : Pw T P) {q : Nd} (hq : nW T P P.length q) (hl : P.length < 24) {post : QI → Prop} (h : ∀ I2 : QI, Pm (q_u2 I2 51 5 (nI (P.length + 1))) (P ++ [q]) → (∀ b, b < 55 ∨ 62 ≤ b → I2 b = I b) → post I2) : wX8_lay (nI P.length) (nI q.1) (nI q.2.1) (sB q.2.2.1) (o1 q) (o2 q) (o3 q) I post := by
  obtain ⟨⟨b1, b2, b3, b4, b5, b6⟩, hwd, c0, c1, c2, c3, c4, c5⟩ := hq
  have hF : ∀ I3 : QI, I3 = q_u2 (q_u2 (q_u2 (q_u2 (q_u2 (q_u2 (q_u2 I 55 P.length (nI q.1)) 56 P.length (nI q.2.1)) 57 P.length (sB q.2.2.1)) 58 P.length (o1 q)) 59 P.length (o2 q)) 60 P.length (o3 q)) 61 P.length (nI q.2.2.2.2.2.2) → post I3 := by
    intro I3 e3
    subst e3
    refine h _ ⟨?_, fun n hn => ?_⟩ (fun b hb => ?_)
    · rw [List.length_append]
      exact q_u2_s _ _ _ _
    · rw [List.length_append] at hn
      have hn2 : n < P.length + 1 := hn
      by_cases e : n = P.length
      · subst e
        rw [nd_eq]
        simp (disch := omega) only [q_u2_s, ne_u2, nr_u2, fa_lit, nI_ltI, nI_leI, nI_eq, nI_add, pk_mul, nI_clamp, vp_in_nI, l_uk, l_n1, l_n1e, l_n1e2, l_n1l, l_n1l2, l_n1l3, not_true_eq_false, not_false_eq_true, true_implies, false_implies, true_and, and_true, and_self, forall_eq, bI_t, bI_f, Bool.false_eq_true, or_true, true_or, or_false, false_or, s1_ltx, if_true, if_false, Nat.add_zero, Nat.zero_add,  d_leF, d_leT, d_ltF, d_ltT, d_eqF, d_eqT]
      · rw [nd_lt (by omega)]
        simp (disch := omega) only [hP.2 n (by omega), q_u2_s, ne_u2, nr_u2, fa_lit, nI_ltI, nI_leI, nI_eq, nI_add, pk_mul, nI_clamp, vp_in_nI, l_uk, l_n1, l_n1e, l_n1e2, l_n1l, l_n1l2, l_n1l3, not_true_eq_false, not_false_eq_true, true_implies, false_implies, true_and, and_true, and_self, forall_eq, bI_t, bI_f, Bool.false_eq_true, or_true, true_or, or_false, false_or, s1_ltx, if_true, if_false, Nat.add_zero, Nat.zero_add,  d_leF, d_leT, d_ltF, d_ltT, d_eqF, d_eqT]
    · simp (disch := omega) only [q_u2_s, ne_u2, nr_u2, fa_lit, nI_ltI, nI_leI, nI_eq, nI_add, pk_mul, nI_clamp, vp_in_nI, l_uk, l_n1, l_n1e, l_n1e2, l_n1l, l_n1l2, l_n1l3, not_true_eq_false, not_false_eq_true, true_implies, false_implies, true_and, and_true, and_self, forall_eq, bI_t, bI_f, Bool.false_eq_true, or_true, true_or, or_false, false_or, s1_ltx, if_true, if_false, Nat.add_zero, Nat.zero_add,  d_leF, d_leT, d_ltF, d_ltT, d_eqF, d_eqT]
  unfold wX8_lay wX8_widthOf
  unfold wd at hwd
  rcases (show q.1 = 0 ∨ q.1 = 3 ∨ q.1 = 2 ∨ (q.1 ≠ 0 ∧ q.1 ≠ 3 ∧ q.1 ≠ 2) by omega) with e | e | e | ⟨e1, e2, e3⟩
  · rw [if_pos e] at hwd
    have := (hwT.l (c0 e).1).1
    have hh := hF _ rfl
    rw [hwd, e] at hh
    simp (disch := omega) only [e, (hT.t this).1, q_u2_s, ne_u2, nr_u2, fa_lit, nI_ltI, nI_leI, nI_eq, nI_add, pk_mul, nI_clamp, vp_in_nI, l_uk, l_n1, l_n1e, l_n1e2, l_n1l, l_n1l2, l_n1l3, not_true_eq_false, not_false_eq_true, true_implies, false_implies, true_and, and_true, and_self, forall_eq, bI_t, bI_f, Bool.false_eq_true, or_true, true_or, or_false, false_or, s1_ltx, if_true, if_false, Nat.add_zero, Nat.zero_add,  d_leF, d_leT, d_ltF, d_ltT, d_eqF, d_eqT]
    exact hh
  · rw [if_neg (by omega), if_pos e] at hwd
    have hh := hF _ rfl
    rw [hwd, e] at hh
    simp (disch := omega) only [e, q_u2_s, ne_u2, nr_u2, fa_lit, nI_ltI, nI_leI, nI_eq, nI_add, pk_mul, nI_clamp, vp_in_nI, l_uk, l_n1, l_n1e, l_n1e2, l_n1l, l_n1l2, l_n1l3, not_true_eq_false, not_false_eq_true, true_implies, false_implies, true_and, and_true, and_self, forall_eq, bI_t, bI_f, Bool.false_eq_true, or_true, true_or, or_false, false_or, s1_ltx, if_true, if_false, Nat.add_zero, Nat.zero_add,  d_leF, d_leT, d_ltF, d_ltT, d_eqF, d_eqT]
    exact hh
  · rw [if_neg (by omega), if_neg (by omega)] at hwd
    obtain ⟨d1, d2, -⟩ := c3 e
    have e9 : sB q.2.2.1 = nI (q.2.2.1 - 1) := if_neg d1
    have e8 := c1 (by omega)
    have hh := hF _ rfl
    by_cases hk : q.2.2.2.1 < 2
    · rw [if_pos ⟨e, hk⟩] at hwd
      rw [hwd, e, e9] at hh
      simp (disch := omega) only [e, e9, o3_j e, (hP.2 _ e8).2.2.2.2.2.2, (hP.2 _ d2).2.2.2.2.2.2, q_u2_s, ne_u2, nr_u2, fa_lit, nI_ltI, nI_leI, nI_eq, nI_add, pk_mul, nI_clamp, vp_in_nI, l_uk, l_n1, l_n1e, l_n1e2, l_n1l, l_n1l2, l_n1l3, not_true_eq_false, not_false_eq_true, true_implies, false_implies, true_and, and_true, and_self, forall_eq, bI_t, bI_f, Bool.false_eq_true, or_true, true_or, or_false, false_or, s1_ltx, if_true, if_false, Nat.add_zero, Nat.zero_add,  d_leF, d_leT, d_ltF, d_ltT, d_eqF, d_eqT]
      rw [o3_j e] at hh
      exact hh
    · rw [if_neg (by omega)] at hwd
      rw [hwd, e, e9] at hh
      simp (disch := omega) only [e, e9, o3_j e, (hP.2 _ e8).2.2.2.2.2.2, (hP.2 _ d2).2.2.2.2.2.2, q_u2_s, ne_u2, nr_u2, fa_lit, nI_ltI, nI_leI, nI_eq, nI_add, pk_mul, nI_clamp, vp_in_nI, l_uk, l_n1, l_n1e, l_n1e2, l_n1l, l_n1l2, l_n1l3, not_true_eq_false, not_false_eq_true, true_implies, false_implies, true_and, and_true, and_self, forall_eq, bI_t, bI_f, Bool.false_eq_true, or_true, true_or, or_false, false_or, s1_ltx, if_true, if_false, Nat.add_zero, Nat.zero_add,  d_leF, d_leT, d_ltF, d_ltT, d_eqF, d_eqT]
      rw [o3_j e] at hh
      exact hh
  · rw [if_neg e1, if_neg e2, if_neg (by omega)] at hwd
    have e8 := c1 e1
    have hh := hF _ rfl
    rw [hwd] at hh
    simp (disch := omega) only [(hP.2 _ e8).2.2.2.2.2.2, q_u2_s, ne_u2, nr_u2, fa_lit, nI_ltI, nI_leI, nI_eq, nI_add, pk_mul, nI_clamp, vp_in_nI, l_uk, l_n1, l_n1e, l_n1e2, l_n1l, l_n1l2, l_n1l3, not_true_eq_false, not_false_eq_true, true_implies, false_implies, true_and, and_true, and_self, forall_eq, bI_t, bI_f, Bool.false_eq_true, or_true, true_or, or_false, false_or, s1_ltx, if_true, if_false, Nat.add_zero, Nat.zero_add,  d_leF, d_leT, d_ltF, d_ltT, d_eqF, d_eqT]
    exact hh
