/-! pure: what a node gives, how many steps; the class's answers kept -/
def ev (T : QT) (P : List Nd) : Nat → Nat → Option (List (List Int32))
  | 0, _ => none
  | f + 1, n => match (if (nd P n).1 = 0 then some [] else ev T P f (nd P n).2.1), (if (nd P n).2.2.1 = 0 then some [] else ev T P f ((nd P n).2.2.1 - 1)) with
    | some A, some B => if (fil T (nd P n) (nd P ((nd P n).2.2.1 - 1)).2.2.2.2.2.2 A B).length ≤ 200 then some (fil T (nd P n) (nd P ((nd P n).2.2.1 - 1)).2.2.2.2.2.2 A B) else none
    | none, _ => none
    | some _, none => none
theorem nW.ab {T : QT} {P : List Nd} {n : Nat} {q : Nd} (h : nW T P n q) : (q.1 ≠ 0 → q.2.1 < n) ∧ (q.2.2.1 ≠ 0 → q.2.2.1 - 1 < n) := by
  obtain ⟨⟨b1, b2, b3, b4, b5, b6, b7⟩, hwd, c0, c1, c2, c3, c4, c5⟩ := h
  refine ⟨c1, fun hb => ?_⟩
  rcases (show q.1 = 0 ∨ q.1 = 1 ∨ q.1 = 2 ∨ q.1 = 3 ∨ q.1 = 4 by omega) with e | e | e | e | e
  · exact absurd (c0 e).2.1 hb
  · exact absurd (c2 e).1 hb
  · exact (c3 e).2.1
  · exact absurd (c4 e).1 hb
  · exact (c5 e).2.1
theorem ev_f {T : QT} {P : List Nd} (hw : Pw T P) : ∀ (f g n : Nat), n < P.length → n < f → n < g → ev T P f n = ev T P g n := by
  intro f
  induction f with
  | zero => intro g n _ h; omega
  | succ f ih =>
    intro g n hn hf hg
    cases g with
    | zero => omega
    | succ g =>
      obtain ⟨ha, hb⟩ := (hw.2 n hn).ab
      have e1 : (if (nd P n).1 = 0 then some [] else ev T P f (nd P n).2.1) = (if (nd P n).1 = 0 then some [] else ev T P g (nd P n).2.1) := by
        by_cases e : (nd P n).1 = 0
        · rw [if_pos e, if_pos e]
        · rw [if_neg e, if_neg e]
          have := ha e
          exact ih g _ (by omega) (by omega) (by omega)
      have e2 : (if (nd P n).2.2.1 = 0 then some [] else ev T P f ((nd P n).2.2.1 - 1)) = (if (nd P n).2.2.1 = 0 then some [] else ev T P g ((nd P n).2.2.1 - 1)) := by
        by_cases e : (nd P n).2.2.1 = 0
        · rw [if_pos e, if_pos e]
        · rw [if_neg e, if_neg e]
          have := hb e
          exact ih g _ (by omega) (by omega) (by omega)
      rw [ev, ev, e1, e2]
def EV (T : QT) (P : List Nd) (n : Nat) : Option (List (List Int32)) := ev T P (n + 1) n
/-- a node's parts' rows -/
def EA (T : QT) (P : List Nd) (n : Nat) : Option (List (List Int32)) := if (nd P n).1 = 0 then some [] else EV T P (nd P n).2.1
def EB (T : QT) (P : List Nd) (n : Nat) : Option (List (List Int32)) := if (nd P n).2.2.1 = 0 then some [] else EV T P ((nd P n).2.2.1 - 1)
def FL (T : QT) (P : List Nd) (n : Nat) (A B : List (List Int32)) : List (List Int32) := fil T (nd P n) (nd P ((nd P n).2.2.1 - 1)).2.2.2.2.2.2 A B
theorem EV_eq {T : QT} {P : List Nd} (hw : Pw T P) {n : Nat} (hn : n < P.length) : EV T P n = match EA T P n, EB T P n with
    | some A, some B => if (FL T P n A B).length ≤ 200 then some (FL T P n A B) else none
    | none, _ => none
    | some _, none => none := by
  obtain ⟨ha, hb⟩ := (hw.2 n hn).ab
  have e1 : (if (nd P n).1 = 0 then some [] else ev T P n (nd P n).2.1) = EA T P n := by
    unfold EA EV
    by_cases e : (nd P n).1 = 0
    · rw [if_pos e, if_pos e]
    · rw [if_neg e, if_neg e]
      have := ha e
      exact ev_f hw _ _ _ (by omega) (by omega) (by omega)
  have e2 : (if (nd P n).2.2.1 = 0 then some [] else ev T P n ((nd P n).2.2.1 - 1)) = EB T P n := by
    unfold EB EV
    by_cases e : (nd P n).2.2.1 = 0
    · rw [if_pos e, if_pos e]
    · rw [if_neg e, if_neg e]
      have := hb e
      exact ev_f hw _ _ _ (by omega) (by omega) (by omega)
  unfold EV
  rw [ev, e1, e2]
  rfl
theorem EV_some {T : QT} {P : List Nd} (hw : Pw T P) {n : Nat} (hn : n < P.length) {L : List (List Int32)} (h : EV T P n = some L) : ∃ A B, EA T P n = some A ∧ EB T P n = some B ∧ L = FL T P n A B ∧ L.length ≤ 200 := by
  rw [EV_eq hw hn] at h
  cases eA : EA T P n with
  | none => rw [eA] at h; cases h
  | some A =>
    cases eB : EB T P n with
    | none => rw [eA, eB] at h; cases h
    | some B =>
      rw [eA, eB] at h
      by_cases e : (FL T P n A B).length ≤ 200
      · have h2 : (if (FL T P n A B).length ≤ 200 then some (FL T P n A B) else none) = some L := h
        rw [if_pos e] at h2
        cases h2
        exact ⟨A, B, rfl, rfl, rfl, e⟩
      · have h2 : (if (FL T P n A B).length ≤ 200 then some (FL T P n A B) else none) = some L := h
        rw [if_neg e] at h2
        cases h2
theorem EV_mk {T : QT} {P : List Nd} (hw : Pw T P) {n : Nat} (hn : n < P.length) {A B : List (List Int32)} (hA : EA T P n = some A) (hB : EB T P n = some B) (h : (FL T P n A B).length ≤ 200) : EV T P n = some (FL T P n A B) := by
  rw [EV_eq hw hn, hA, hB]
  exact if_pos h
theorem EV_no {T : QT} {P : List Nd} (hw : Pw T P) {n : Nat} (hn : n < P.length) {A B : List (List Int32)} (hA : EA T P n = some A) (hB : EB T P n = some B) (h : 200 < (FL T P n A B).length) : EV T P n = none := by
  rw [EV_eq hw hn, hA, hB]
  exact if_neg (by omega)
theorem EV_nA {T : QT} {P : List Nd} (hw : Pw T P) {n : Nat} (hn : n < P.length) (hA : EA T P n = none ∨ EB T P n = none) : EV T P n = none := by
  rw [EV_eq hw hn]
  rcases hA with h | h
  · rw [h]
  · cases eA : EA T P n with
    | none => rfl
    | some A => rw [h]
def oL (o : Option (List (List Int32))) : Nat := match o with
  | some L => L.length
  | none => 0
def st (T : QT) (P : List Nd) : Nat → Nat → Nat
  | 0, _ => 0
  | f + 1, n => oL (EV T P n) + (if (nd P n).1 = 0 then 0 else st T P f (nd P n).2.1) + (if (nd P n).2.2.1 = 0 then 0 else st T P f ((nd P n).2.2.1 - 1))
theorem st_f {T : QT} {P : List Nd} (hw : Pw T P) : ∀ (f g n : Nat), n < P.length → n < f → n < g → st T P f n = st T P g n := by
  intro f
  induction f with
  | zero => intro g n _ h; omega
  | succ f ih =>
    intro g n hn hf hg
    cases g with
    | zero => omega
    | succ g =>
      obtain ⟨ha, hb⟩ := (hw.2 n hn).ab
      have e1 : (if (nd P n).1 = 0 then 0 else st T P f (nd P n).2.1) = (if (nd P n).1 = 0 then 0 else st T P g (nd P n).2.1) := by
        by_cases e : (nd P n).1 = 0
        · rw [if_pos e, if_pos e]
        · rw [if_neg e, if_neg e]
          have := ha e
          exact ih g _ (by omega) (by omega) (by omega)
      have e2 : (if (nd P n).2.2.1 = 0 then 0 else st T P f ((nd P n).2.2.1 - 1)) = (if (nd P n).2.2.1 = 0 then 0 else st T P g ((nd P n).2.2.1 - 1)) := by
        by_cases e : (nd P n).2.2.1 = 0
        · rw [if_pos e, if_pos e]
        · rw [if_neg e, if_neg e]
          have := hb e
          exact ih g _ (by omega) (by omega) (by omega)
      rw [st, st, e1, e2]
def ST (T : QT) (P : List Nd) (n : Nat) : Nat := st T P (n + 1) n
def SA (T : QT) (P : List Nd) (n : Nat) : Nat := if (nd P n).1 = 0 then 0 else ST T P (nd P n).2.1
def SB (T : QT) (P : List Nd) (n : Nat) : Nat := if (nd P n).2.2.1 = 0 then 0 else ST T P ((nd P n).2.2.1 - 1)
theorem ST_eq {T : QT} {P : List Nd} (hw : Pw T P) {n : Nat} (hn : n < P.length) : ST T P n = oL (EV T P n) + SA T P n + SB T P n := by
  obtain ⟨ha, hb⟩ := (hw.2 n hn).ab
  have e1 : (if (nd P n).1 = 0 then 0 else st T P n (nd P n).2.1) = SA T P n := by
    unfold SA ST
    by_cases e : (nd P n).1 = 0
    · rw [if_pos e, if_pos e]
    · rw [if_neg e, if_neg e]
      have := ha e
      exact st_f hw _ _ _ (by omega) (by omega) (by omega)
  have e2 : (if (nd P n).2.2.1 = 0 then 0 else st T P n ((nd P n).2.2.1 - 1)) = SB T P n := by
    unfold SB ST
    by_cases e : (nd P n).2.2.1 = 0
    · rw [if_pos e, if_pos e]
    · rw [if_neg e, if_neg e]
      have := hb e
      exact st_f hw _ _ _ (by omega) (by omega) (by omega)
  unfold ST
  rw [st, e1, e2]
/-- the class has it right -/
def OKc (I : QI) (T : QT) (P : List Nd) (n : Nat) : Prop := match EV T P n with
  | none => I 25 n = N1
  | some L => Hd I n L (nd P n).2.2.2.2.2.2 ∧ I 26 n = nI (min (ST T P n) 100001)
theorem OKc.n {I : QI} {T : QT} {P : List Nd} {n : Nat} (h : OKc I T P n) (e : EV T P n = none) : I 25 n = N1 := by
  unfold OKc at h
  rw [e] at h
  exact h
theorem OKc.s {I : QI} {T : QT} {P : List Nd} {n : Nat} {L : List (List Int32)} (h : OKc I T P n) (e : EV T P n = some L) : Hd I n L (nd P n).2.2.2.2.2.2 ∧ I 26 n = nI (min (ST T P n) 100001) := by
  unfold OKc at h
  rw [e] at h
  exact h
theorem OKc.mn {I : QI} {T : QT} {P : List Nd} {n : Nat} (e : EV T P n = none) (h : I 25 n = N1) : OKc I T P n := by
  unfold OKc
  rw [e]
  exact h
theorem OKc.ms {I : QI} {T : QT} {P : List Nd} {n : Nat} {L : List (List Int32)} (e : EV T P n = some L) (h : Hd I n L (nd P n).2.2.2.2.2.2) (h2 : I 26 n = nI (min (ST T P n) 100001)) : OKc I T P n := by
  unfold OKc
  rw [e]
  exact ⟨h, h2⟩
theorem OKc.fa {I I2 : QI} {T : QT} {P : List Nd} {n m : Nat} (h : OKc I T P m) (hF : FA n I I2) (hm : m ≠ n) (hw6 : (nd P m).2.2.2.2.2.2 ≤ 6) : OKc I2 T P m := by
  cases e : EV T P m with
  | none => exact OKc.mn e ((hF.2.2 m hm).trans (h.n e))
  | some L => exact OKc.ms e ((h.s e).1.fa hF hm hw6) (by rw [hF.1 26 (by omega) (by omega) (by omega)]; exact (h.s e).2)
theorem p_arePartsPossible {I : QI} {T : QT} {P : List Nd} (hP : Pc I P) (hw : Pw T P) {n : Nat} (hn : n < P.length) (hA : (nd P n).1 ≠ 0 → OKc I T P (nd P n).2.1) (hB : (nd P n).2.2.1 ≠ 0 → OKc I T P ((nd P n).2.2.1 - 1)) {post : Int32 → Prop} (h1 : ∀ A B, EA T P n = some A → EB T P n = some B → post (nI 1)) (h2 : EA T P n = none ∨ EB T P n = none → post (nI 0)) : wX0_arePartsPossible (nI n) I post := by
  have h24 := hw.1
  obtain ⟨ha, hb⟩ := (hw.2 n hn).ab
  obtain ⟨⟨b1, b2, b3, b4, b5, b6, b7⟩, hwd, c0, c1, c2, c3, c4, c5⟩ := hw.2 n hn
  unfold wX0_arePartsPossible
  refine p_typeOf hP hw hn ?_
  by_cases e : (nd P n).1 = 0
  · have eA : EA T P n = some [] := if_pos e
    have eB : EB T P n = some [] := if_pos (c0 e).2.1
    simp (disch := omega) only [e, fa_lit, nI_ltI, nI_leI, nI_eq, nI_add, pk_mul, nI_clamp, vp_in_nI, l_uk, l_n1, l_n1e, l_n1e2, l_n1l, l_n1l2, l_n1l3, not_true_eq_false, not_false_eq_true, true_implies, false_implies, true_and, and_true, and_self, forall_eq, bI_t, bI_f, Bool.false_eq_true, or_true, true_or, or_false, false_or, s1_ltx, if_true, if_false, Nat.add_zero, Nat.zero_add,  d_leF, d_leT, d_ltF, d_ltT, d_eqF, d_eqT]
    exact h1 _ _ eA eB
  · have eA : EA T P n = EV T P (nd P n).2.1 := if_neg e
    have ha2 := ha e
    have hA2 := hA e
    simp (disch := omega) only [fa_lit, nI_ltI, nI_leI, nI_eq, nI_add, pk_mul, nI_clamp, vp_in_nI, l_uk, l_n1, l_n1e, l_n1e2, l_n1l, l_n1l2, l_n1l3, not_true_eq_false, not_false_eq_true, true_implies, false_implies, true_and, and_true, and_self, forall_eq, bI_t, bI_f, Bool.false_eq_true, or_true, true_or, or_false, false_or, s1_ltx, if_true, if_false, Nat.add_zero, Nat.zero_add,  d_leF, d_leT, d_ltF, d_ltT, d_eqF, d_eqT]
    refine p_secondOf hP hw hn (p_firstOf hP hw hn (p_countOf (by omega) ?_))
    cases eV : EV T P (nd P n).2.1 with
    | none =>
      rw [hA2.n eV]
      exact ⟨fun _ => h2 (Or.inl (eA.trans eV)), fun z => absurd rfl z⟩
    | some A =>
      have hA3 := (hA2.s eV).1
      have hA4 := hA3.2.1
      rw [hA3.1]
      simp (disch := omega) only [fa_lit, nI_ltI, nI_leI, nI_eq, nI_add, pk_mul, nI_clamp, vp_in_nI, l_uk, l_n1, l_n1e, l_n1e2, l_n1l, l_n1l2, l_n1l3, not_true_eq_false, not_false_eq_true, true_implies, false_implies, true_and, and_true, and_self, forall_eq, bI_t, bI_f, Bool.false_eq_true, or_true, true_or, or_false, false_or, s1_ltx, if_true, if_false, Nat.add_zero, Nat.zero_add,  d_leF, d_leT, d_ltF, d_ltT, d_eqF, d_eqT]
      by_cases e2 : (nd P n).2.2.1 = 0
      · have eB : EB T P n = some [] := if_pos e2
        rw [e2, sB_0]
        exact ⟨fun _ => h1 _ _ (eA.trans eV) eB, fun z => absurd rfl z⟩
      · have eB : EB T P n = EV T P ((nd P n).2.2.1 - 1) := if_neg e2
        have hb2 := hb e2
        have hB2 := hB e2
        have e9 : sB (nd P n).2.2.1 = nI ((nd P n).2.2.1 - 1) := if_neg e2
        rw [e9]
        simp (disch := omega) only [fa_lit, nI_ltI, nI_leI, nI_eq, nI_add, pk_mul, nI_clamp, vp_in_nI, l_uk, l_n1, l_n1e, l_n1e2, l_n1l, l_n1l2, l_n1l3, not_true_eq_false, not_false_eq_true, true_implies, false_implies, true_and, and_true, and_self, forall_eq, bI_t, bI_f, Bool.false_eq_true, or_true, true_or, or_false, false_or, s1_ltx, if_true, if_false, Nat.add_zero, Nat.zero_add,  d_leF, d_leT, d_ltF, d_ltT, d_eqF, d_eqT]
        refine p_countOf (by omega) ?_
        cases eV2 : EV T P ((nd P n).2.2.1 - 1) with
        | none =>
          rw [hB2.n eV2]
          exact ⟨fun _ => h2 (Or.inr (eB.trans eV2)), fun z => absurd rfl z⟩
        | some B =>
          have hB3 := (hB2.s eV2).1
          have hB4 := hB3.2.1
          rw [hB3.1]
          simp (disch := omega) only [fa_lit, nI_ltI, nI_leI, nI_eq, nI_add, pk_mul, nI_clamp, vp_in_nI, l_uk, l_n1, l_n1e, l_n1e2, l_n1l, l_n1l2, l_n1l3, not_true_eq_false, not_false_eq_true, true_implies, false_implies, true_and, and_true, and_self, forall_eq, bI_t, bI_f, Bool.false_eq_true, or_true, true_or, or_false, false_or, s1_ltx, if_true, if_false, Nat.add_zero, Nat.zero_add,  d_leF, d_leT, d_ltF, d_ltT, d_eqF, d_eqT]
          exact h1 _ _ (eA.trans eV) (eB.trans eV2)
theorem p_stepsOf {I : QI} {n : Nat} {post : Int32 → Prop} (hn : n < 24) (h : post (I 26 n)) : wX0_stepsOf (nI n) I post := by
  unfold wX0_stepsOf
  simp (disch := omega) only [fa_lit, nI_ltI, nI_leI, nI_eq, nI_add, pk_mul, nI_clamp, vp_in_nI, l_uk, l_n1, l_n1e, l_n1e2, l_n1l, l_n1l2, l_n1l3, not_true_eq_false, not_false_eq_true, true_implies, false_implies, true_and, and_true, and_self, forall_eq, bI_t, bI_f, Bool.false_eq_true, or_true, true_or, or_false, false_or, s1_ltx, if_true, if_false, Nat.add_zero, Nat.zero_add,  d_leF, d_leT, d_ltF, d_ltT, d_eqF, d_eqT]
  exact h
theorem p_stepsOf_n {I : QI} {post : Int32 → Prop} (h : post (nI 0)) : wX0_stepsOf N1 I post := by
  unfold wX0_stepsOf
  exact ⟨fun _ => h, fun e => absurd N1_neg e⟩
theorem min_if (v : Nat) : (if 100001 < v then nI 100001 else nI v) = nI (min v 100001) := by
  by_cases e : 100001 < v
  · rw [show min v 100001 = 100001 by omega, if_pos e]
  · rw [show min v 100001 = v by omega, if_neg e]
theorem p_finish1 {I : QI} {T : QT} {P : List Nd} (hP : Pc I P) (hw : Pw T P) {n c sa sb : Nat} (hn : n < P.length) (hc : I 25 n = nI c) (hc2 : c ≤ 200) (hA : (nd P n).1 ≠ 0 → I 26 (nd P n).2.1 = nI sa) (hB : (nd P n).2.2.1 ≠ 0 → I 26 ((nd P n).2.2.1 - 1) = nI sb) (ha3 : sa ≤ 100001) (hb3 : sb ≤ 100001) {post : QI → Prop} (h : post (q_u2 I 26 n (nI (min (c + (if (nd P n).1 = 0 then 0 else sa) + (if (nd P n).2.2.1 = 0 then 0 else sb)) 100001)))) : wX0_finish (nI n) (nI 1) I post := by
  have h24 := hw.1
  obtain ⟨ha, hb⟩ := (hw.2 n hn).ab
  obtain ⟨⟨b1, b2, b3, b4, b5, b6, b7⟩, hwd, c0, c1, c2, c3, c4, c5⟩ := hw.2 n hn
  unfold wX0_finish
  simp (disch := omega) only [hc, fa_lit, nI_ltI, nI_leI, nI_eq, nI_add, pk_mul, nI_clamp, vp_in_nI, l_uk, l_n1, l_n1e, l_n1e2, l_n1l, l_n1l2, l_n1l3, not_true_eq_false, not_false_eq_true, true_implies, false_implies, true_and, and_true, and_self, forall_eq, bI_t, bI_f, Bool.false_eq_true, or_true, true_or, or_false, false_or, s1_ltx, if_true, if_false, Nat.add_zero, Nat.zero_add,  d_leF, d_leT, d_ltF, d_ltT, d_eqF, d_eqT]
  refine p_typeOf hP hw hn ?_
  by_cases e : (nd P n).1 = 0
  · rw [if_pos e, if_pos (c0 e).2.1] at h
    simp only [Nat.add_zero] at h
    rw [show min c 100001 = c by omega] at h
    simp (disch := omega) only [e, fa_lit, nI_ltI, nI_leI, nI_eq, nI_add, pk_mul, nI_clamp, vp_in_nI, l_uk, l_n1, l_n1e, l_n1e2, l_n1l, l_n1l2, l_n1l3, not_true_eq_false, not_false_eq_true, true_implies, false_implies, true_and, and_true, and_self, forall_eq, bI_t, bI_f, Bool.false_eq_true, or_true, true_or, or_false, false_or, s1_ltx, if_true, if_false, Nat.add_zero, Nat.zero_add,  d_leF, d_leT, d_ltF, d_ltT, d_eqF, d_eqT]
    exact h
  · have ha2 := ha e
    rw [if_neg e] at h
    simp (disch := omega) only [fa_lit, nI_ltI, nI_leI, nI_eq, nI_add, pk_mul, nI_clamp, vp_in_nI, l_uk, l_n1, l_n1e, l_n1e2, l_n1l, l_n1l2, l_n1l3, not_true_eq_false, not_false_eq_true, true_implies, false_implies, true_and, and_true, and_self, forall_eq, bI_t, bI_f, Bool.false_eq_true, or_true, true_or, or_false, false_or, s1_ltx, if_true, if_false, Nat.add_zero, Nat.zero_add,  d_leF, d_leT, d_ltF, d_ltT, d_eqF, d_eqT]
    refine p_firstOf hP hw hn (p_stepsOf (by omega) (p_secondOf hP hw hn ?_))
    rw [hA e]
    by_cases e2 : (nd P n).2.2.1 = 0
    · rw [if_pos e2, Nat.add_zero, ← min_if] at h
      rw [e2, sB_0]
      refine p_stepsOf_n ?_
      simp (disch := omega) only [fa_lit, nI_ltI, nI_leI, nI_eq, nI_add, pk_mul, nI_clamp, vp_in_nI, l_uk, l_n1, l_n1e, l_n1e2, l_n1l, l_n1l2, l_n1l3, not_true_eq_false, not_false_eq_true, true_implies, false_implies, true_and, and_true, and_self, forall_eq, bI_t, bI_f, Bool.false_eq_true, or_true, true_or, or_false, false_or, s1_ltx, if_true, if_false, Nat.add_zero, Nat.zero_add,  d_leF, d_leT, d_ltF, d_ltT, d_eqF, d_eqT]
      exact h
    · have hb2 := hb e2
      have e9 : sB (nd P n).2.2.1 = nI ((nd P n).2.2.1 - 1) := if_neg e2
      rw [if_neg e2, Nat.add_assoc, ← min_if] at h
      rw [e9]
      refine p_stepsOf (by omega) ?_
      rw [hB e2]
      simp (disch := omega) only [fa_lit, nI_ltI, nI_leI, nI_eq, nI_add, pk_mul, nI_clamp, vp_in_nI, l_uk, l_n1, l_n1e, l_n1e2, l_n1l, l_n1l2, l_n1l3, not_true_eq_false, not_false_eq_true, true_implies, false_implies, true_and, and_true, and_self, forall_eq, bI_t, bI_f, Bool.false_eq_true, or_true, true_or, or_false, false_or, s1_ltx, if_true, if_false, Nat.add_zero, Nat.zero_add,  d_leF, d_leT, d_ltF, d_ltT, d_eqF, d_eqT]
      exact h
theorem p_finish0 {I : QI} {T : QT} {P : List Nd} (hP : Pc I P) (hw : Pw T P) {n : Nat} (hn : n < P.length) {post : QI → Prop} (h : ∀ x, post (q_u2 (q_u2 I 25 n N1) 26 n x)) : wX0_finish (nI n) (nI 0) I post := by
  have h24 := hw.1
  obtain ⟨ha, hb⟩ := (hw.2 n hn).ab
  have hP2 : Pc (q_u2 I 25 n N1) P := Pc_fr hP (fun b h1 h2 => nr_u2 (by omega))
  unfold wX0_finish
  simp (disch := omega) only [fa_lit, nI_ltI, nI_leI, nI_eq, nI_add, pk_mul, nI_clamp, vp_in_nI, l_uk, l_n1, l_n1e, l_n1e2, l_n1l, l_n1l2, l_n1l3, not_true_eq_false, not_false_eq_true, true_implies, false_implies, true_and, and_true, and_self, forall_eq, bI_t, bI_f, Bool.false_eq_true, or_true, true_or, or_false, false_or, s1_ltx, if_true, if_false, Nat.add_zero, Nat.zero_add,  d_leF, d_leT, d_ltF, d_ltT, d_eqF, d_eqT]
  refine p_typeOf hP2 hw hn ?_
  by_cases e : (nd P n).1 = 0
  · simp (disch := omega) only [e, fa_lit, nI_ltI, nI_leI, nI_eq, nI_add, pk_mul, nI_clamp, vp_in_nI, l_uk, l_n1, l_n1e, l_n1e2, l_n1l, l_n1l2, l_n1l3, not_true_eq_false, not_false_eq_true, true_implies, false_implies, true_and, and_true, and_self, forall_eq, bI_t, bI_f, Bool.false_eq_true, or_true, true_or, or_false, false_or, s1_ltx, if_true, if_false, Nat.add_zero, Nat.zero_add,  d_leF, d_leT, d_ltF, d_ltT, d_eqF, d_eqT]
    exact h _
  · have ha2 := ha e
    obtain ⟨⟨b1, -⟩, -⟩ := hw.2 n hn
    simp (disch := omega) only [fa_lit, nI_ltI, nI_leI, nI_eq, nI_add, pk_mul, nI_clamp, vp_in_nI, l_uk, l_n1, l_n1e, l_n1e2, l_n1l, l_n1l2, l_n1l3, not_true_eq_false, not_false_eq_true, true_implies, false_implies, true_and, and_true, and_self, forall_eq, bI_t, bI_f, Bool.false_eq_true, or_true, true_or, or_false, false_or, s1_ltx, if_true, if_false, Nat.add_zero, Nat.zero_add,  d_leF, d_leT, d_ltF, d_ltT, d_eqF, d_eqT]
    refine p_firstOf hP2 hw hn (p_stepsOf (by omega) (p_secondOf hP2 hw hn ?_))
    by_cases e2 : (nd P n).2.2.1 = 0
    · rw [e2, sB_0]
      exact p_stepsOf_n (h _)
    · have hb2 := hb e2
      have e9 : sB (nd P n).2.2.1 = nI ((nd P n).2.2.1 - 1) := if_neg e2
      rw [e9]
      exact p_stepsOf (by omega) (h _)
