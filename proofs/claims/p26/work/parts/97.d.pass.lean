/-! pure: the class passes filters on, and stacks them -/
def pfx (p : Nat → Bool) : List Nat → Nat
  | [] => 0
  | e :: es => if p e then pfx p es + 1 else 0
theorem pfx_le {p : Nat → Bool} : ∀ {L : List Nat}, pfx p L ≤ L.length
  | [] => Nat.le_refl _
  | e :: es => by
    have := pfx_le (p := p) (L := es)
    rw [pfx]
    split
    · show _ ≤ es.length + 1
      omega
    · exact Nat.zero_le _
theorem pfx_lt {p : Nat → Bool} : ∀ {L : List Nat} {i : Nat}, i < pfx p L → p (gN L i) = true
  | [], i, h => absurd h (Nat.not_lt_zero i)
  | e :: es, i, h => by
    rw [pfx] at h
    split at h
    · rename_i he
      cases i with
      | zero => exact he
      | succ i => exact pfx_lt (L := es) (by omega)
    · omega
theorem pfx_stop {p : Nat → Bool} : ∀ {L : List Nat}, pfx p L < L.length → p (gN L (pfx p L)) = false
  | [], h => absurd h (Nat.not_lt_zero _)
  | e :: es, h => by
    rw [pfx] at h ⊢
    cases he : p e
    · rw [if_neg (by decide)]
      exact he
    · rw [he, if_pos rfl] at h
      rw [if_pos rfl]
      exact pfx_stop (L := es) (Nat.lt_of_succ_lt_succ h)
def isF (P : List Nd) (n e : Nat) : Bool := if (nd P n).1 = 2 then (decide ((nd P n).2.2.2.1 = 0) || decide (e / 1200 < (nd P (nd P n).2.1).2.2.2.2.2.2)) else decide ((nd P n).1 = 4 ∧ (nd P n).2.2.2.1 = 0)
theorem pfx_all {p : Nat → Bool} (h : ∀ e, p e = true) : ∀ L : List Nat, pfx p L = L.length
  | [] => rfl
  | e :: es => by rw [pfx, if_pos (h e), pfx_all h es]; rfl
theorem pfx_none {p : Nat → Bool} (h : ∀ e, p e = false) : ∀ L : List Nat, pfx p L = 0
  | [] => rfl
  | e :: es => by rw [pfx, if_neg (by rw [h e]; decide)]
theorem pfx_pre {p : Nat → Bool} {b : Nat} (h : ∀ e, p e = decide (e / 1200 < b)) : ∀ L : List Nat, pfx p L = pre b L
  | [] => rfl
  | e :: es => by
    rw [pfx, pre, h e, pfx_pre h es]
    by_cases e2 : e / 1200 < b
    · rw [if_pos (decide_eq_true e2), if_pos e2]
    · rw [if_neg (fun z => e2 (of_decide_eq_true z)), if_neg e2]
theorem fre_pfx (P : List Nd) (n : Nat) (L : List Nat) : fre P n L = pfx (isF P n) L := by
  unfold fre
  by_cases e : (nd P n).1 = 2
  · rw [if_pos e]
    by_cases e2 : (nd P n).2.2.2.1 = 0
    · rw [if_pos e2]
      exact (pfx_all (fun x => by unfold isF; rw [if_pos e, decide_eq_true e2]; rfl) L).symm
    · rw [if_neg e2]
      exact (pfx_pre (fun x => by unfold isF; rw [if_pos e, decide_eq_false e2]; rfl) L).symm
  · rw [if_neg e]
    by_cases e2 : (nd P n).1 = 4 ∧ (nd P n).2.2.2.1 = 0
    · rw [if_pos e2]
      exact (pfx_all (fun x => by unfold isF; rw [if_neg e]; exact decide_eq_true e2) L).symm
    · rw [if_neg e2]
      exact (pfx_none (fun x => by unfold isF; rw [if_neg e]; exact decide_eq_false e2) L).symm
theorem fre_le {P : List Nd} {n : Nat} {L : List Nat} : fre P n L ≤ L.length := by
  rw [fre_pfx]
  exact pfx_le
def gF (P : List Nd) (n e : Nat) : Option Nat := if (nd P n).1 = 4 ∨ e / 1200 < (nd P (nd P n).2.1).2.2.2.2.2.2 then some e else none
def gS (P : List Nd) (n e : Nat) : Option Nat := if (nd P n).1 = 4 then some e else if e / 1200 < (nd P (nd P n).2.1).2.2.2.2.2.2 then none else some (e - 1200 * (nd P (nd P n).2.1).2.2.2.2.2.2)
theorem cF_g (P : List Nd) (n : Nat) (L : List Nat) : cF P n L = (L.take (fre P n L)).filterMap (gF P n) := by
  unfold cF
  generalize L.take (fre P n L) = M
  by_cases e : (nd P n).1 = 4
  · rw [if_pos e]
    induction M with
    | nil => rfl
    | cons x M ih =>
      have ex : gF P n x = some x := if_pos (Or.inl e)
      rw [List.filterMap_cons_some ex, ← ih]
  · rw [if_neg e]
    induction M with
    | nil => rfl
    | cons x M ih =>
      by_cases h : x / 1200 < (nd P (nd P n).2.1).2.2.2.2.2.2
      · have ex : gF P n x = some x := if_pos (Or.inr h)
        rw [List.filterMap_cons_some ex, ← ih, List.filter_cons, if_pos (decide_eq_true h)]
      · have ex : gF P n x = none := if_neg (fun z => z.elim e h)
        rw [List.filterMap_cons_none ex, ← ih, List.filter_cons, if_neg (fun z => h (of_decide_eq_true z))]
theorem cS_g (P : List Nd) (n : Nat) (L : List Nat) : cS P n L = (L.take (fre P n L)).filterMap (gS P n) := by
  unfold cS
  generalize L.take (fre P n L) = M
  by_cases e : (nd P n).1 = 4
  · rw [if_pos e]
    induction M with
    | nil => rfl
    | cons x M ih =>
      have ex : gS P n x = some x := if_pos e
      rw [List.filterMap_cons_some ex, ← ih]
  · rw [if_neg e]
    induction M with
    | nil => rfl
    | cons x M ih =>
      by_cases h : x / 1200 < (nd P (nd P n).2.1).2.2.2.2.2.2
      · have ex : gS P n x = none := by unfold gS; rw [if_neg e, if_pos h]
        rw [List.filterMap_cons_none ex, ← ih, List.filter_cons, decide_eq_false (fun z => z h)]
        rfl
      · have ex : gS P n x = some (x - 1200 * (nd P (nd P n).2.1).2.2.2.2.2.2) := by unfold gS; rw [if_neg e, if_neg h]
        rw [List.filterMap_cons_some ex, ← ih, List.filter_cons, if_pos (decide_eq_true h), List.map_cons]
theorem fm_l {g : Nat → Option Nat} {L : List Nat} : (L.filterMap g).length ≤ L.length := List.length_filterMap_le g L
section PA
variable {I : QI} {T : QT} {P : List Nd} {n lev : Nat} {L : List Nat}
theorem p_firstCodes {post : Int32 → Prop} (hP : Pc I P) (hw : Pw T P) (hn : n < P.length) (h0 : ¬ (nd P n).1 = 0) (k : post (nI ((nd P (nd P n).2.1).2.2.2.2.2.2 * 1194))) : wX3_firstCodes (nI n) I post := by
  have ha := (hw.2 n hn).ab.1 h0
  unfold wX3_firstCodes
  refine p_firstOf hP hw hn (p_widthOf hP hw (by omega) ?_)
  simp (disch := omega) only [fa_lit, nI_ltI, nI_leI, nI_eq, nI_add, pk_mul, nI_clamp, vp_in_nI, l_uk, l_n1, l_n1e, l_n1e2, l_n1l, l_n1l2, l_n1l3, not_true_eq_false, not_false_eq_true, true_implies, false_implies, true_and, and_true, and_self, forall_eq, bI_t, bI_f, Bool.false_eq_true, or_true, true_or, or_false, false_or, s1_ltx, if_true, if_false, Nat.add_zero, Nat.zero_add,  d_leF, d_leT, d_ltF, d_ltT, d_eqF, d_eqT]
  exact k
theorem p_isFree {e : Nat} {post : Int32 → Prop} (hP : Pc I P) (hw : Pw T P) (hn : n < P.length) (he : e % 200 < 199) (he6 : e / 1200 < 6) (k : post (bI (isF P n e))) : wX3_isFree (nI n) (nI (cc e)) I post := by
  have h24 := hw.1
  obtain ⟨⟨b1, b2, b3, b4, b5, b6, b7⟩, -⟩ := hw.2 n hn
  have cb := cc_b he6
  unfold isF at k
  unfold wX3_isFree
  refine p_typeOf hP hw hn ?_
  by_cases e2 : (nd P n).1 = 2
  · rw [if_pos e2] at k
    have ha := (hw.2 n hn).ab.1 (by omega)
    have wa6 := (hw.2 (nd P n).2.1 (by omega)).1.2.2.2.2.2.2
    simp (disch := omega) only [e2, fa_lit, nI_ltI, nI_leI, nI_eq, nI_add, pk_mul, nI_clamp, vp_in_nI, l_uk, l_n1, l_n1e, l_n1e2, l_n1l, l_n1l2, l_n1l3, not_true_eq_false, not_false_eq_true, true_implies, false_implies, true_and, and_true, and_self, forall_eq, bI_t, bI_f, Bool.false_eq_true, or_true, true_or, or_false, false_or, s1_ltx, if_true, if_false, Nat.add_zero, Nat.zero_add,  d_leF, d_leT, d_ltF, d_ltT, d_eqF, d_eqT]
    refine p_kindOf hP hw hn ?_
    by_cases e3 : (nd P n).2.2.2.1 = 0
    · rw [decide_eq_true e3] at k
      simp (disch := omega) only [e3, fa_lit, nI_ltI, nI_leI, nI_eq, nI_add, pk_mul, nI_clamp, vp_in_nI, l_uk, l_n1, l_n1e, l_n1e2, l_n1l, l_n1l2, l_n1l3, not_true_eq_false, not_false_eq_true, true_implies, false_implies, true_and, and_true, and_self, forall_eq, bI_t, bI_f, Bool.false_eq_true, or_true, true_or, or_false, false_or, s1_ltx, if_true, if_false, Nat.add_zero, Nat.zero_add,  d_leF, d_leT, d_ltF, d_ltT, d_eqF, d_eqT]
      exact k
    · rw [decide_eq_false e3] at k
      simp (disch := omega) only [fa_lit, nI_ltI, nI_leI, nI_eq, nI_add, pk_mul, nI_clamp, vp_in_nI, l_uk, l_n1, l_n1e, l_n1e2, l_n1l, l_n1l2, l_n1l3, not_true_eq_false, not_false_eq_true, true_implies, false_implies, true_and, and_true, and_self, forall_eq, bI_t, bI_f, Bool.false_eq_true, or_true, true_or, or_false, false_or, s1_ltx, if_true, if_false, Nat.add_zero, Nat.zero_add,  d_leF, d_leT, d_ltF, d_ltT, d_eqF, d_eqT]
      refine p_firstCodes hP hw hn (by omega) ?_
      have c := cc_col (e := e) (w := (nd P (nd P n).2.1).2.2.2.2.2.2) he
      by_cases e4 : e / 1200 < (nd P (nd P n).2.1).2.2.2.2.2.2
      · rw [decide_eq_true e4] at k
        have := c.mpr e4
        simp (disch := omega) only [fa_lit, nI_ltI, nI_leI, nI_eq, nI_add, pk_mul, nI_clamp, vp_in_nI, l_uk, l_n1, l_n1e, l_n1e2, l_n1l, l_n1l2, l_n1l3, not_true_eq_false, not_false_eq_true, true_implies, false_implies, true_and, and_true, and_self, forall_eq, bI_t, bI_f, Bool.false_eq_true, or_true, true_or, or_false, false_or, s1_ltx, if_true, if_false, Nat.add_zero, Nat.zero_add,  d_leF, d_leT, d_ltF, d_ltT, d_eqF, d_eqT]
        exact k
      · rw [decide_eq_false e4] at k
        have : ¬ cc e < (nd P (nd P n).2.1).2.2.2.2.2.2 * 1194 := fun z => e4 (c.mp z)
        simp (disch := omega) only [fa_lit, nI_ltI, nI_leI, nI_eq, nI_add, pk_mul, nI_clamp, vp_in_nI, l_uk, l_n1, l_n1e, l_n1e2, l_n1l, l_n1l2, l_n1l3, not_true_eq_false, not_false_eq_true, true_implies, false_implies, true_and, and_true, and_self, forall_eq, bI_t, bI_f, Bool.false_eq_true, or_true, true_or, or_false, false_or, s1_ltx, if_true, if_false, Nat.add_zero, Nat.zero_add,  d_leF, d_leT, d_ltF, d_ltT, d_eqF, d_eqT]
        exact k
  · rw [if_neg e2] at k
    by_cases e4 : (nd P n).1 = 4
    · simp (disch := omega) only [e4, fa_lit, nI_ltI, nI_leI, nI_eq, nI_add, pk_mul, nI_clamp, vp_in_nI, l_uk, l_n1, l_n1e, l_n1e2, l_n1l, l_n1l2, l_n1l3, not_true_eq_false, not_false_eq_true, true_implies, false_implies, true_and, and_true, and_self, forall_eq, bI_t, bI_f, Bool.false_eq_true, or_true, true_or, or_false, false_or, s1_ltx, if_true, if_false, Nat.add_zero, Nat.zero_add,  d_leF, d_leT, d_ltF, d_ltT, d_eqF, d_eqT]
      refine p_kindOf hP hw hn ?_
      by_cases e3 : (nd P n).2.2.2.1 = 0
      · rw [decide_eq_true ⟨e4, e3⟩] at k
        simp (disch := omega) only [e3, fa_lit, nI_ltI, nI_leI, nI_eq, nI_add, pk_mul, nI_clamp, vp_in_nI, l_uk, l_n1, l_n1e, l_n1e2, l_n1l, l_n1l2, l_n1l3, not_true_eq_false, not_false_eq_true, true_implies, false_implies, true_and, and_true, and_self, forall_eq, bI_t, bI_f, Bool.false_eq_true, or_true, true_or, or_false, false_or, s1_ltx, if_true, if_false, Nat.add_zero, Nat.zero_add,  d_leF, d_leT, d_ltF, d_ltT, d_eqF, d_eqT]
        exact k
      · rw [decide_eq_false (fun z => e3 z.2)] at k
        simp (disch := omega) only [fa_lit, nI_ltI, nI_leI, nI_eq, nI_add, pk_mul, nI_clamp, vp_in_nI, l_uk, l_n1, l_n1e, l_n1e2, l_n1l, l_n1l2, l_n1l3, not_true_eq_false, not_false_eq_true, true_implies, false_implies, true_and, and_true, and_self, forall_eq, bI_t, bI_f, Bool.false_eq_true, or_true, true_or, or_false, false_or, s1_ltx, if_true, if_false, Nat.add_zero, Nat.zero_add,  d_leF, d_leT, d_ltF, d_ltT, d_eqF, d_eqT]
        exact k
    · rw [decide_eq_false (fun z => e4 z.1)] at k
      simp (disch := omega) only [fa_lit, nI_ltI, nI_leI, nI_eq, nI_add, pk_mul, nI_clamp, vp_in_nI, l_uk, l_n1, l_n1e, l_n1e2, l_n1l, l_n1l2, l_n1l3, not_true_eq_false, not_false_eq_true, true_implies, false_implies, true_and, and_true, and_self, forall_eq, bI_t, bI_f, Bool.false_eq_true, or_true, true_or, or_false, false_or, s1_ltx, if_true, if_false, Nat.add_zero, Nat.zero_add,  d_leF, d_leT, d_ltF, d_ltT, d_eqF, d_eqT]
      exact k
theorem okL.g {w : Nat} (h : okL w L) {i : Nat} (hi : i < L.length) : gN L i / 1200 < w ∧ gN L i % 200 < 199 := h _ (gN_m hi)
theorem p_countFree {post : Int32 → Prop} (hP : Pc I P) (hw : Pw T P) (hn : n < P.length) (hR : Lv I lev L) (hl : lev < 25) (hL : L.length ≤ 23) (hok : okL (nd P n).2.2.2.2.2.2 L) (k : post (nI (fre P n L))) : wX3_countFree (nI n) (nI lev) I post := by
  have wn6 := (hw.2 n hn).1.2.2.2.2.2.2
  have hle := fre_le (P := P) (n := n) (L := L)
  rw [fre_pfx] at k hle
  unfold wX3_countFree
  refine lp (fun f i (_ : Unit) => wX3_countFree_2 (nI n) (nI lev) I post f (nI i)) (fun _ _ => True) (pfx (isF P n) L) ?_ ?_ 0 () (Nat.zero_le _) trivial
  · intro f _ _
    show wX3_countFree_2 _ _ _ _ _ _
    rw [wX3_countFree_2]
    refine p_lengthOf hR hl ?_
    by_cases e : pfx (isF P n) L < L.length
    · obtain ⟨x, y⟩ := hok.g e
      simp (disch := omega) only [fa_lit, nI_ltI, nI_leI, nI_eq, nI_add, pk_mul, nI_clamp, vp_in_nI, l_uk, l_n1, l_n1e, l_n1e2, l_n1l, l_n1l2, l_n1l3, not_true_eq_false, not_false_eq_true, true_implies, false_implies, true_and, and_true, and_self, forall_eq, bI_t, bI_f, Bool.false_eq_true, or_true, true_or, or_false, false_or, s1_ltx, if_true, if_false, Nat.add_zero, Nat.zero_add,  d_leF, d_leT, d_ltF, d_ltT, d_eqF, d_eqT]
      refine p_codeAt hR hl (by omega) e (p_isFree hP hw hn y (by omega) ?_)
      rw [pfx_stop e]
      simp (disch := omega) only [fa_lit, nI_ltI, nI_leI, nI_eq, nI_add, pk_mul, nI_clamp, vp_in_nI, l_uk, l_n1, l_n1e, l_n1e2, l_n1l, l_n1l2, l_n1l3, not_true_eq_false, not_false_eq_true, true_implies, false_implies, true_and, and_true, and_self, forall_eq, bI_t, bI_f, Bool.false_eq_true, or_true, true_or, or_false, false_or, s1_ltx, if_true, if_false, Nat.add_zero, Nat.zero_add,  d_leF, d_leT, d_ltF, d_ltT, d_eqF, d_eqT]
      exact k
    · simp (disch := omega) only [fa_lit, nI_ltI, nI_leI, nI_eq, nI_add, pk_mul, nI_clamp, vp_in_nI, l_uk, l_n1, l_n1e, l_n1e2, l_n1l, l_n1l2, l_n1l3, not_true_eq_false, not_false_eq_true, true_implies, false_implies, true_and, and_true, and_self, forall_eq, bI_t, bI_f, Bool.false_eq_true, or_true, true_or, or_false, false_or, s1_ltx, if_true, if_false, Nat.add_zero, Nat.zero_add,  d_leF, d_leT, d_ltF, d_ltT, d_eqF, d_eqT]
      exact k
  · intro f i _ hi _ hk
    obtain ⟨x, y⟩ := hok.g (i := i) (by omega)
    show wX3_countFree_2 _ _ _ _ _ _
    rw [wX3_countFree_2]
    refine p_lengthOf hR hl ?_
    simp (disch := omega) only [fa_lit, nI_ltI, nI_leI, nI_eq, nI_add, pk_mul, nI_clamp, vp_in_nI, l_uk, l_n1, l_n1e, l_n1e2, l_n1l, l_n1l2, l_n1l3, not_true_eq_false, not_false_eq_true, true_implies, false_implies, true_and, and_true, and_self, forall_eq, bI_t, bI_f, Bool.false_eq_true, or_true, true_or, or_false, false_or, s1_ltx, if_true, if_false, Nat.add_zero, Nat.zero_add,  d_leF, d_leT, d_ltF, d_ltT, d_eqF, d_eqT]
    refine p_codeAt hR hl (by omega) (by omega) (p_isFree hP hw hn y (by omega) ?_)
    rw [pfx_lt hi]
    simp (disch := omega) only [fa_lit, nI_ltI, nI_leI, nI_eq, nI_add, pk_mul, nI_clamp, vp_in_nI, l_uk, l_n1, l_n1e, l_n1e2, l_n1l, l_n1l2, l_n1l3, not_true_eq_false, not_false_eq_true, true_implies, false_implies, true_and, and_true, and_self, forall_eq, bI_t, bI_f, Bool.false_eq_true, or_true, true_or, or_false, false_or, s1_ltx, if_true, if_false, Nat.add_zero, Nat.zero_add,  d_leF, d_leT, d_ltF, d_ltT, d_eqF, d_eqT]
    exact hk () trivial
theorem fm_s {g : Nat → Option Nat} {i : Nat} (hi : i < L.length) : (L.take (i + 1)).filterMap g = (L.take i).filterMap g ++ (match g (gN L i) with
    | some x => [x]
    | none => []) := by
  rw [gN_t hi, List.filterMap_append]
  congr 1
  cases e : g (gN L i) with
  | none => rw [List.filterMap_cons_none e]; rfl
  | some x => rw [List.filterMap_cons_some e]; rfl
theorem p_passToFirst {fr : Nat} {post : QI → Prop} (hP : Pc I P) (hw : Pw T P) (hn : n < P.length) (h0 : ¬ (nd P n).1 = 0) (hR : Lv I lev L) (hl : lev < 24) (hL : L.length ≤ 23) (hok : okL (nd P n).2.2.2.2.2.2 L) (hfr : fr ≤ L.length) (k : ∀ I2, F1 (lev + 1) I I2 → Lv I2 (lev + 1) ((L.take fr).filterMap (gF P n)) → post I2) : wX3_passToFirst (nI n) (nI lev) (nI fr) I post := by
  have h24 := hw.1
  obtain ⟨⟨b1, b2, b3, b4, b5, b6, b7⟩, -⟩ := hw.2 n hn
  have ha := (hw.2 n hn).ab.1 h0
  have wa6 := (hw.2 (nd P n).2.1 (by omega)).1.2.2.2.2.2.2
  have loop : ∀ (b : Bool) (I2 : QI), (b = true ↔ (nd P n).1 = 4) → F1 (lev + 1) I I2 → Lv I2 (lev + 1) [] → ∃ f, wX3_passToFirst_29 (nI n) (nI lev) (nI fr) post f (bI b) 0 I2 := by
    intro b I2 hb hF2 hR2
    refine lp (fun f i (I3 : QI) => wX3_passToFirst_29 (nI n) (nI lev) (nI fr) post f (bI b) (nI i) I3) (fun i I3 => F1 (lev + 1) I I3 ∧ Lv I3 (lev + 1) ((L.take i).filterMap (gF P n))) fr ?_ ?_ 0 I2 (Nat.zero_le _) ⟨hF2, by rw [List.take_zero]; exact hR2⟩
    · rintro f I3 ⟨hF, hR3⟩
      show wX3_passToFirst_29 _ _ _ _ _ _ _ _
      rw [wX3_passToFirst_29]
      simp (disch := omega) only [fa_lit, nI_ltI, nI_leI, nI_eq, nI_add, pk_mul, nI_clamp, vp_in_nI, l_uk, l_n1, l_n1e, l_n1e2, l_n1l, l_n1l2, l_n1l3, not_true_eq_false, not_false_eq_true, true_implies, false_implies, true_and, and_true, and_self, forall_eq, bI_t, bI_f, Bool.false_eq_true, or_true, true_or, or_false, false_or, s1_ltx, if_true, if_false, Nat.add_zero, Nat.zero_add,  d_leF, d_leT, d_ltF, d_ltT, d_eqF, d_eqT]
      exact k I3 hF hR3
    · rintro f i I3 hi ⟨hF, hR3⟩ hk
      obtain ⟨x, y⟩ := hok.g (i := i) (by omega)
      have cb := cc_b (e := gN L i) (by omega)
      have hP3 : Pc I3 P := Pc_fr hP (fun b h1 h2 => hF.1 b (by omega) (by omega))
      have hl3 : ((L.take i).filterMap (gF P n)).length < 24 := by
        have := fm_l (g := gF P n) (L := L.take i)
        rw [List.length_take] at this
        omega
      have nx : ∀ I4, F1 (lev + 1) I3 I4 → Lv I4 (lev + 1) ((L.take (i + 1)).filterMap (gF P n)) → wX3_passToFirst_29 (nI n) (nI lev) (nI fr) post f (bI b) (nI (i + 1)) I4 := fun I4 a c => hk I4 ⟨hF.tr a, c⟩
      rw [fm_s (by omega)] at nx
      show wX3_passToFirst_29 _ _ _ _ _ _ _ _
      rw [wX3_passToFirst_29]
      simp (disch := omega) only [fa_lit, nI_ltI, nI_leI, nI_eq, nI_add, pk_mul, nI_clamp, vp_in_nI, l_uk, l_n1, l_n1e, l_n1e2, l_n1l, l_n1l2, l_n1l3, not_true_eq_false, not_false_eq_true, true_implies, false_implies, true_and, and_true, and_self, forall_eq, bI_t, bI_f, Bool.false_eq_true, or_true, true_or, or_false, false_or, s1_ltx, if_true, if_false, Nat.add_zero, Nat.zero_add,  d_leF, d_leT, d_ltF, d_ltT, d_eqF, d_eqT]
      refine p_codeAt (hF.lv hR (by omega) (by omega)) (by omega) (by omega) (by omega) ?_
      cases b
      · have h4 : ¬ (nd P n).1 = 4 := fun z => by have := hb.mpr z; cases this
        simp (disch := omega) only [fa_lit, nI_ltI, nI_leI, nI_eq, nI_add, pk_mul, nI_clamp, vp_in_nI, l_uk, l_n1, l_n1e, l_n1e2, l_n1l, l_n1l2, l_n1l3, not_true_eq_false, not_false_eq_true, true_implies, false_implies, true_and, and_true, and_self, forall_eq, bI_t, bI_f, Bool.false_eq_true, or_true, true_or, or_false, false_or, s1_ltx, if_true, if_false, Nat.add_zero, Nat.zero_add,  d_leF, d_leT, d_ltF, d_ltT, d_eqF, d_eqT]
        refine p_firstCodes hP3 hw hn h0 ?_
        have c := cc_col (e := gN L i) (w := (nd P (nd P n).2.1).2.2.2.2.2.2) y
        by_cases e4 : gN L i / 1200 < (nd P (nd P n).2.1).2.2.2.2.2.2
        · have eg : gF P n (gN L i) = some (gN L i) := if_pos (Or.inr e4)
          rw [eg] at nx
          have := c.mpr e4
          simp (disch := omega) only [fa_lit, nI_ltI, nI_leI, nI_eq, nI_add, pk_mul, nI_clamp, vp_in_nI, l_uk, l_n1, l_n1e, l_n1e2, l_n1l, l_n1l2, l_n1l3, not_true_eq_false, not_false_eq_true, true_implies, false_implies, true_and, and_true, and_self, forall_eq, bI_t, bI_f, Bool.false_eq_true, or_true, true_or, or_false, false_or, s1_ltx, if_true, if_false, Nat.add_zero, Nat.zero_add,  d_leF, d_leT, d_ltF, d_ltT, d_eqF, d_eqT]
          exact p_rapp hR3 (by omega) hl3 nx
        · have eg : gF P n (gN L i) = none := if_neg (fun z => z.elim h4 e4)
          rw [eg] at nx
          have : ¬ cc (gN L i) < (nd P (nd P n).2.1).2.2.2.2.2.2 * 1194 := fun z => e4 (c.mp z)
          simp (disch := omega) only [fa_lit, nI_ltI, nI_leI, nI_eq, nI_add, pk_mul, nI_clamp, vp_in_nI, l_uk, l_n1, l_n1e, l_n1e2, l_n1l, l_n1l2, l_n1l3, not_true_eq_false, not_false_eq_true, true_implies, false_implies, true_and, and_true, and_self, forall_eq, bI_t, bI_f, Bool.false_eq_true, or_true, true_or, or_false, false_or, s1_ltx, if_true, if_false, Nat.add_zero, Nat.zero_add,  d_leF, d_leT, d_ltF, d_ltT, d_eqF, d_eqT]
          exact nx I3 (F1.rf _ _) (by rw [List.append_nil]; exact hR3)
      · have eg : gF P n (gN L i) = some (gN L i) := if_pos (Or.inl (hb.mp rfl))
        rw [eg] at nx
        simp (disch := omega) only [fa_lit, nI_ltI, nI_leI, nI_eq, nI_add, pk_mul, nI_clamp, vp_in_nI, l_uk, l_n1, l_n1e, l_n1e2, l_n1l, l_n1l2, l_n1l3, not_true_eq_false, not_false_eq_true, true_implies, false_implies, true_and, and_true, and_self, forall_eq, bI_t, bI_f, Bool.false_eq_true, or_true, true_or, or_false, false_or, s1_ltx, if_true, if_false, Nat.add_zero, Nat.zero_add,  d_leF, d_leT, d_ltF, d_ltT, d_eqF, d_eqT]
        exact p_rapp hR3 (by omega) hl3 nx
  unfold wX3_passToFirst
  refine p_typeOf hP hw hn ?_
  by_cases e4 : (nd P n).1 = 4
  · simp (disch := omega) only [e4, fa_lit, nI_ltI, nI_leI, nI_eq, nI_add, pk_mul, nI_clamp, vp_in_nI, l_uk, l_n1, l_n1e, l_n1e2, l_n1l, l_n1l2, l_n1l3, not_true_eq_false, not_false_eq_true, true_implies, false_implies, true_and, and_true, and_self, forall_eq, bI_t, bI_f, Bool.false_eq_true, or_true, true_or, or_false, false_or, s1_ltx, if_true, if_false, Nat.add_zero, Nat.zero_add,  d_leF, d_leT, d_ltF, d_ltT, d_eqF, d_eqT]
    refine p_empty (by omega) (fun I2 a c d => ?_)
    exact loop true I2 ⟨fun _ => e4, fun _ => rfl⟩ ⟨fun b h1 h2 => a b h2, fun j _ => by rw [a 31 (by omega)], c⟩ d
  · simp (disch := omega) only [fa_lit, nI_ltI, nI_leI, nI_eq, nI_add, pk_mul, nI_clamp, vp_in_nI, l_uk, l_n1, l_n1e, l_n1e2, l_n1l, l_n1l2, l_n1l3, not_true_eq_false, not_false_eq_true, true_implies, false_implies, true_and, and_true, and_self, forall_eq, bI_t, bI_f, Bool.false_eq_true, or_true, true_or, or_false, false_or, s1_ltx, if_true, if_false, Nat.add_zero, Nat.zero_add,  d_leF, d_leT, d_ltF, d_ltT, d_eqF, d_eqT]
    refine p_empty (by omega) (fun I2 a c d => ?_)
    exact loop false I2 ⟨fun z => (nomatch z), fun z => absurd z e4⟩ ⟨fun b h1 h2 => a b h2, fun j _ => by rw [a 31 (by omega)], c⟩ d
theorem p_passToSecond {fr : Nat} {post : QI → Prop} (hP : Pc I P) (hw : Pw T P) (hn : n < P.length) (h0 : ¬ (nd P n).1 = 0) (hR : Lv I lev L) (hl : lev < 24) (hL : L.length ≤ 23) (hok : okL (nd P n).2.2.2.2.2.2 L) (hfr : fr ≤ L.length) (k : ∀ I2, F1 (lev + 1) I I2 → Lv I2 (lev + 1) ((L.take fr).filterMap (gS P n)) → post I2) : wX3_passToSecond (nI n) (nI lev) (nI fr) I post := by
  have h24 := hw.1
  obtain ⟨⟨b1, b2, b3, b4, b5, b6, b7⟩, -⟩ := hw.2 n hn
  have ha := (hw.2 n hn).ab.1 h0
  have wa6 := (hw.2 (nd P n).2.1 (by omega)).1.2.2.2.2.2.2
  have loop : ∀ (b : Bool) (I2 : QI), (b = true ↔ (nd P n).1 = 4) → F1 (lev + 1) I I2 → Lv I2 (lev + 1) [] → ∃ f, wX3_passToSecond_29 (nI n) (nI lev) (nI fr) post f (bI b) 0 I2 := by
    intro b I2 hb hF2 hR2
    refine lp (fun f i (I3 : QI) => wX3_passToSecond_29 (nI n) (nI lev) (nI fr) post f (bI b) (nI i) I3) (fun i I3 => F1 (lev + 1) I I3 ∧ Lv I3 (lev + 1) ((L.take i).filterMap (gS P n))) fr ?_ ?_ 0 I2 (Nat.zero_le _) ⟨hF2, by rw [List.take_zero]; exact hR2⟩
    · rintro f I3 ⟨hF, hR3⟩
      show wX3_passToSecond_29 _ _ _ _ _ _ _ _
      rw [wX3_passToSecond_29]
      simp (disch := omega) only [fa_lit, nI_ltI, nI_leI, nI_eq, nI_add, pk_mul, nI_clamp, vp_in_nI, l_uk, l_n1, l_n1e, l_n1e2, l_n1l, l_n1l2, l_n1l3, not_true_eq_false, not_false_eq_true, true_implies, false_implies, true_and, and_true, and_self, forall_eq, bI_t, bI_f, Bool.false_eq_true, or_true, true_or, or_false, false_or, s1_ltx, if_true, if_false, Nat.add_zero, Nat.zero_add,  d_leF, d_leT, d_ltF, d_ltT, d_eqF, d_eqT]
      exact k I3 hF hR3
    · rintro f i I3 hi ⟨hF, hR3⟩ hk
      obtain ⟨x, y⟩ := hok.g (i := i) (by omega)
      have cb := cc_b (e := gN L i) (by omega)
      have hP3 : Pc I3 P := Pc_fr hP (fun b h1 h2 => hF.1 b (by omega) (by omega))
      have hl3 : ((L.take i).filterMap (gS P n)).length < 24 := by
        have := fm_l (g := gS P n) (L := L.take i)
        rw [List.length_take] at this
        omega
      have nx : ∀ I4, F1 (lev + 1) I3 I4 → Lv I4 (lev + 1) ((L.take (i + 1)).filterMap (gS P n)) → wX3_passToSecond_29 (nI n) (nI lev) (nI fr) post f (bI b) (nI (i + 1)) I4 := fun I4 a c => hk I4 ⟨hF.tr a, c⟩
      rw [fm_s (by omega)] at nx
      show wX3_passToSecond_29 _ _ _ _ _ _ _ _
      rw [wX3_passToSecond_29]
      simp (disch := omega) only [fa_lit, nI_ltI, nI_leI, nI_eq, nI_add, pk_mul, nI_clamp, vp_in_nI, l_uk, l_n1, l_n1e, l_n1e2, l_n1l, l_n1l2, l_n1l3, not_true_eq_false, not_false_eq_true, true_implies, false_implies, true_and, and_true, and_self, forall_eq, bI_t, bI_f, Bool.false_eq_true, or_true, true_or, or_false, false_or, s1_ltx, if_true, if_false, Nat.add_zero, Nat.zero_add,  d_leF, d_leT, d_ltF, d_ltT, d_eqF, d_eqT]
      refine p_codeAt (hF.lv hR (by omega) (by omega)) (by omega) (by omega) (by omega) ?_
      cases b
      · have h4 : ¬ (nd P n).1 = 4 := fun z => by have := hb.mpr z; cases this
        simp (disch := omega) only [fa_lit, nI_ltI, nI_leI, nI_eq, nI_add, pk_mul, nI_clamp, vp_in_nI, l_uk, l_n1, l_n1e, l_n1e2, l_n1l, l_n1l2, l_n1l3, not_true_eq_false, not_false_eq_true, true_implies, false_implies, true_and, and_true, and_self, forall_eq, bI_t, bI_f, Bool.false_eq_true, or_true, true_or, or_false, false_or, s1_ltx, if_true, if_false, Nat.add_zero, Nat.zero_add,  d_leF, d_leT, d_ltF, d_ltT, d_eqF, d_eqT]
        refine p_firstCodes hP3 hw hn h0 ?_
        have c := cc_col (e := gN L i) (w := (nd P (nd P n).2.1).2.2.2.2.2.2) y
        by_cases e4 : gN L i / 1200 < (nd P (nd P n).2.1).2.2.2.2.2.2
        · have eg : gS P n (gN L i) = none := by unfold gS; rw [if_neg h4, if_pos e4]
          rw [eg] at nx
          have := c.mpr e4
          simp (disch := omega) only [fa_lit, nI_ltI, nI_leI, nI_eq, nI_add, pk_mul, nI_clamp, vp_in_nI, l_uk, l_n1, l_n1e, l_n1e2, l_n1l, l_n1l2, l_n1l3, not_true_eq_false, not_false_eq_true, true_implies, false_implies, true_and, and_true, and_self, forall_eq, bI_t, bI_f, Bool.false_eq_true, or_true, true_or, or_false, false_or, s1_ltx, if_true, if_false, Nat.add_zero, Nat.zero_add,  d_leF, d_leT, d_ltF, d_ltT, d_eqF, d_eqT]
          exact nx I3 (F1.rf _ _) (by rw [List.append_nil]; exact hR3)
        · have eg : gS P n (gN L i) = some (gN L i - 1200 * (nd P (nd P n).2.1).2.2.2.2.2.2) := by unfold gS; rw [if_neg h4, if_neg e4]
          rw [eg] at nx
          have : ¬ cc (gN L i) < (nd P (nd P n).2.1).2.2.2.2.2.2 * 1194 := fun z => e4 (c.mp z)
          simp (disch := omega) only [fa_lit, nI_ltI, nI_leI, nI_eq, nI_add, pk_mul, nI_clamp, vp_in_nI, l_uk, l_n1, l_n1e, l_n1e2, l_n1l, l_n1l2, l_n1l3, not_true_eq_false, not_false_eq_true, true_implies, false_implies, true_and, and_true, and_self, forall_eq, bI_t, bI_f, Bool.false_eq_true, or_true, true_or, or_false, false_or, s1_ltx, if_true, if_false, Nat.add_zero, Nat.zero_add,  d_leF, d_leT, d_ltF, d_ltT, d_eqF, d_eqT]
          refine p_firstCodes hP3 hw hn h0 ?_
          rw [pk_sub (by omega), cc_sub (by omega)]
          exact p_rapp hR3 (by omega) hl3 nx
      · have eg : gS P n (gN L i) = some (gN L i) := if_pos (hb.mp rfl)
        rw [eg] at nx
        simp (disch := omega) only [fa_lit, nI_ltI, nI_leI, nI_eq, nI_add, pk_mul, nI_clamp, vp_in_nI, l_uk, l_n1, l_n1e, l_n1e2, l_n1l, l_n1l2, l_n1l3, not_true_eq_false, not_false_eq_true, true_implies, false_implies, true_and, and_true, and_self, forall_eq, bI_t, bI_f, Bool.false_eq_true, or_true, true_or, or_false, false_or, s1_ltx, if_true, if_false, Nat.add_zero, Nat.zero_add,  d_leF, d_leT, d_ltF, d_ltT, d_eqF, d_eqT]
        exact p_rapp hR3 (by omega) hl3 nx
  unfold wX3_passToSecond
  refine p_typeOf hP hw hn ?_
  by_cases e4 : (nd P n).1 = 4
  · simp (disch := omega) only [e4, fa_lit, nI_ltI, nI_leI, nI_eq, nI_add, pk_mul, nI_clamp, vp_in_nI, l_uk, l_n1, l_n1e, l_n1e2, l_n1l, l_n1l2, l_n1l3, not_true_eq_false, not_false_eq_true, true_implies, false_implies, true_and, and_true, and_self, forall_eq, bI_t, bI_f, Bool.false_eq_true, or_true, true_or, or_false, false_or, s1_ltx, if_true, if_false, Nat.add_zero, Nat.zero_add,  d_leF, d_leT, d_ltF, d_ltT, d_eqF, d_eqT]
    refine p_empty (by omega) (fun I2 a c d => ?_)
    exact loop true I2 ⟨fun _ => e4, fun _ => rfl⟩ ⟨fun b h1 h2 => a b h2, fun j _ => by rw [a 31 (by omega)], c⟩ d
  · simp (disch := omega) only [fa_lit, nI_ltI, nI_leI, nI_eq, nI_add, pk_mul, nI_clamp, vp_in_nI, l_uk, l_n1, l_n1e, l_n1e2, l_n1l, l_n1l2, l_n1l3, not_true_eq_false, not_false_eq_true, true_implies, false_implies, true_and, and_true, and_self, forall_eq, bI_t, bI_f, Bool.false_eq_true, or_true, true_or, or_false, false_or, s1_ltx, if_true, if_false, Nat.add_zero, Nat.zero_add,  d_leF, d_leT, d_ltF, d_ltT, d_eqF, d_eqT]
    refine p_empty (by omega) (fun I2 a c d => ?_)
    exact loop false I2 ⟨fun z => (nomatch z), fun z => absurd z e4⟩ ⟨fun b h1 h2 => a b h2, fun j _ => by rw [a 31 (by omega)], c⟩ d
end PA
