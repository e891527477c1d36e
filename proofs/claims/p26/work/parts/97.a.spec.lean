/-! pure: what rewriting is: nodes found or made, filters in a chain, the greatest lowest -/
def mk (P : List Nd) (q : Nd) : Option (Nat × List Nd) := match fnd P q with
  | some i => some (i, P)
  | none => if P.length < 24 then some (P.length, P ++ [q]) else none
/-- a filter with a number: column, comparison, value -/
def fq (a e w : Nat) : Nd := (1, a, 0, e / 200 % 6, e / 1200, nI (e % 200) - nI 99, w)
def chn (w : Nat) : List Nd → Nat → List Nat → Option (Nat × List Nd)
  | P, a, [] => some (a, P)
  | P, a, e :: es => match mk P (fq a e w) with
    | none => none
    | some r => chn w r.2 r.1 es
def ins (e : Nat) : List Nat → List Nat
  | [] => [e]
  | x :: xs => if x < e then e :: x :: xs else x :: ins e xs
def dsc : List Nat → List Nat
  | [] => []
  | e :: es => ins e (dsc es)
def qco (q : Nd) : Nat := 1200 * q.2.2.2.2.1 + 200 * q.2.2.2.1 + (q.2.2.2.2.2.1 + nI 99).toNatClampNeg
/-- how many of the first ones are below a bound -/
def pre (b : Nat) : List Nat → Nat
  | [] => 0
  | e :: es => if e / 1200 < b then pre b es + 1 else 0
/-- how many filters move below a node -/
def fre (P : List Nd) (n : Nat) (L : List Nat) : Nat :=
  if (nd P n).1 = 2 then (if (nd P n).2.2.2.1 = 0 then L.length else pre (nd P (nd P n).2.1).2.2.2.2.2.2 L) else if (nd P n).1 = 4 ∧ (nd P n).2.2.2.1 = 0 then L.length else 0
def cF (P : List Nd) (n : Nat) (L : List Nat) : List Nat := if (nd P n).1 = 4 then L.take (fre P n L) else (L.take (fre P n L)).filter (fun e => decide (e / 1200 < (nd P (nd P n).2.1).2.2.2.2.2.2))
def cS (P : List Nd) (n : Nat) (L : List Nat) : List Nat := if (nd P n).1 = 4 then L.take (fre P n L) else ((L.take (fre P n L)).filter (fun e => decide (¬ e / 1200 < (nd P (nd P n).2.1).2.2.2.2.2.2))).map (fun e => e - 1200 * (nd P (nd P n).2.1).2.2.2.2.2.2)
def rwS : Nat → List Nd → Nat → List Nat → Option (Nat × List Nd)
  | 0, _, _, _ => none
  | f + 1, P, n, L =>
    if (nd P n).1 = 1 then rwS f P (nd P n).2.1 (qco (nd P n) :: L) else
    match (if (nd P n).1 = 0 then some ((nd P n).2.1, P) else rwS f P (nd P n).2.1 (cF P n L)) with
    | none => none
    | some r1 => match (if (nd P n).2.2.1 = 0 then some (0, r1.2) else (rwS f r1.2 ((nd P n).2.2.1 - 1) (cS P n L)).map (fun r => (r.1 + 1, r.2))) with
      | none => none
      | some r2 => match mk r2.2 ((nd P n).1, r1.1, r2.1, (nd P n).2.2.2.1, (nd P n).2.2.2.2.1, (nd P n).2.2.2.2.2.1, (nd P n).2.2.2.2.2.2) with
        | none => none
        | some r3 => chn (nd P n).2.2.2.2.2.2 r3.2 r3.1 (dsc (L.drop (fre P n L)))
/-- more nodes behind -/
def XP (P P2 : List Nd) : Prop := ∃ R, P2 = P ++ R
theorem XP.rf (P : List Nd) : XP P P := ⟨[], (List.append_nil P).symm⟩
theorem XP.tr {P P2 P3 : List Nd} (h : XP P P2) (h2 : XP P2 P3) : XP P P3 := by
  obtain ⟨R, e⟩ := h
  obtain ⟨R2, e2⟩ := h2
  exact ⟨R ++ R2, by rw [e2, e, List.append_assoc]⟩
theorem XP.le {P P2 : List Nd} (h : XP P P2) : P.length ≤ P2.length := by
  obtain ⟨R, e⟩ := h
  rw [e, List.length_append]
  omega
theorem XP.g {P P2 : List Nd} (h : XP P P2) {n : Nat} (hn : n < P.length) : nd P2 n = nd P n := by
  obtain ⟨R, e⟩ := h
  rw [e]
  unfold nd
  rw [List.getD_eq_getElem?_getD, List.getD_eq_getElem?_getD, List.getElem?_append_left hn]
theorem XP.one (P : List Nd) (q : Nd) : XP P (P ++ [q]) := ⟨[q], rfl⟩
theorem fnd_si {P : List Nd} {q : Nd} {i : Nat} (h : fnd P q = some i) : i < P.length ∧ six (nd P i) = six q ∧ ∀ k, k < i → ¬ six (nd P k) = six q := by
  obtain ⟨a, b, c⟩ := srch_si h
  exact ⟨a, of_decide_eq_true b, fun k hk => of_decide_eq_false (c k hk)⟩
theorem fnd_mk {P : List Nd} {q : Nd} {i : Nat} (h1 : i < P.length) (h2 : six (nd P i) = six q) (h3 : ∀ k, k < i → ¬ six (nd P k) = six q) : fnd P q = some i := srch_i (decide_eq_true h2) (fun k hk => decide_eq_false (h3 k hk)) h1
theorem fnd_no {P : List Nd} {q : Nd} (h : fnd P q = none) : ∀ k, k < P.length → ¬ six (nd P k) = six q := fun k hk => of_decide_eq_false (srch_ni h k hk)
theorem fnd_x {P P2 : List Nd} {q : Nd} {i : Nat} (h : fnd P q = some i) (hx : XP P P2) : fnd P2 q = some i := by
  obtain ⟨a, b, c⟩ := fnd_si h
  have := hx.le
  exact fnd_mk (by omega) (by rw [hx.g a]; exact b) (fun k hk => by rw [hx.g (by omega)]; exact c k hk)
/-- no node twice -/
def Pd (P : List Nd) : Prop := ∀ n, n < P.length → fnd P (nd P n) = some n
theorem Pd.one {P : List Nd} {q : Nd} (h : Pd P) (hn : fnd P q = none) : Pd (P ++ [q]) := by
  intro n hl
  rw [List.length_append] at hl
  have hl2 : n < P.length + 1 := hl
  by_cases e : n = P.length
  · subst e
    rw [nd_eq]
    refine fnd_mk (by rw [List.length_append]; exact Nat.lt_succ_self _) (by rw [nd_eq]) (fun k hk => ?_)
    rw [nd_lt hk]
    exact fnd_no hn k hk
  · rw [nd_lt (by omega)]
    exact fnd_x (h n (by omega)) (XP.one P q)
theorem mk_x {P P1 P2 : List Nd} {q : Nd} {i : Nat} (h : mk P q = some (i, P1)) (hx : XP P1 P2) : mk P2 q = some (i, P2) := by
  unfold mk at h ⊢
  cases e : fnd P q with
  | some j =>
    rw [e] at h
    have h2 : some (j, P) = some (i, P1) := h
    cases h2
    rw [fnd_x e hx]
  | none =>
    rw [e] at h
    have h2 : (if P.length < 24 then some (P.length, P ++ [q]) else none) = some (i, P1) := h
    split at h2
    · cases h2
      have e2 : fnd (P ++ [q]) q = some P.length := fnd_mk (by rw [List.length_append]; exact Nat.lt_succ_self _) (by rw [nd_eq]) (fun k hk => by rw [nd_lt hk]; exact fnd_no e k hk)
      rw [fnd_x e2 hx]
    · cases h2
theorem nW_x {T : QT} {P P2 : List Nd} {n : Nat} {q : Nd} (h : nW T P n q) (hn : n ≤ P.length) (hx : XP P P2) : nW T P2 n q := by
  have hab := h.ab
  obtain ⟨hB, hwd, c0, c1, c2, c3, c4, c5⟩ := h
  have eA : q.1 ≠ 0 → nd P2 q.2.1 = nd P q.2.1 := fun z => hx.g (by have := c1 z; omega)
  have eB : q.2.2.1 ≠ 0 → nd P2 (q.2.2.1 - 1) = nd P (q.2.2.1 - 1) := fun z => hx.g (by have := hab.2 z; omega)
  refine ⟨hB, ?_, c0, c1, fun e => ?_, fun e => ?_, fun e => ?_, fun e => ?_⟩
  · rw [hwd]
    unfold wd
    by_cases e0 : q.1 = 0
    · rw [if_pos e0, if_pos e0]
    · rw [if_neg e0, if_neg e0, eA e0]
      by_cases e2 : q.1 = 2
      · rw [eB (c3 e2).1]
      · rw [if_neg (show ¬ (q.1 = 2 ∧ q.2.2.2.1 < 2) from fun z => e2 z.1), if_neg (show ¬ (q.1 = 2 ∧ q.2.2.2.1 < 2) from fun z => e2 z.1)]
  · rw [eA (by omega)]; exact c2 e
  · rw [eA (by omega), eB (c3 e).1]; exact c3 e
  · rw [eA (by omega)]; exact c4 e
  · rw [eA (by omega), eB (c5 e).1]; exact c5 e
theorem mk_ok {T : QT} {P P1 : List Nd} {q : Nd} {i : Nat} (hw : Pw T P) (hd : Pd P) (hq : nW T P P.length q) (h : mk P q = some (i, P1)) : Pw T P1 ∧ Pd P1 ∧ XP P P1 ∧ i < P1.length ∧ six (nd P1 i) = six q := by
  unfold mk at h
  cases e : fnd P q with
  | some j =>
    rw [e] at h
    have h2 : some (j, P) = some (i, P1) := h
    cases h2
    obtain ⟨a, b, c⟩ := fnd_si e
    exact ⟨hw, hd, XP.rf _, a, b⟩
  | none =>
    rw [e] at h
    have h2 : (if P.length < 24 then some (P.length, P ++ [q]) else none) = some (i, P1) := h
    split at h2
    · rename_i hl
      cases h2
      refine ⟨⟨by rw [List.length_append]; exact hl, fun n hn => ?_⟩, hd.one e, XP.one _ _, by rw [List.length_append]; exact Nat.lt_succ_self _, by rw [nd_eq]⟩
      rw [List.length_append] at hn
      have hn2 : n < P.length + 1 := hn
      by_cases e2 : n = P.length
      · subst e2
        rw [nd_eq]
        exact nW_x hq (Nat.le_refl _) (XP.one P q)
      · rw [nd_lt (by omega)]
        exact nW_x (hw.2 n (by omega)) (by omega) (XP.one P q)
    · cases h2

theorem six_w {p q : Nd} (h : six p = six q) : p.1 = q.1 ∧ p.2.1 = q.2.1 ∧ p.2.2.1 = q.2.2.1 ∧ p.2.2.2.1 = q.2.2.2.1 ∧ p.2.2.2.2.1 = q.2.2.2.2.1 ∧ p.2.2.2.2.2.1 = q.2.2.2.2.2.1 := (six_iff p q).mp h
/-- the width of a node that is there follows from what it is -/
theorem wd_six {T : QT} {P : List Nd} {p q : Nd} (h : six p = six q) : wd T P p = wd T P q := by
  obtain ⟨a, b, c, d, e, f⟩ := six_w h
  unfold wd
  rw [a, b, c, d]
theorem mk_w {T : QT} {P P1 : List Nd} {q : Nd} {i : Nat} (hw : Pw T P) (hd : Pd P) (hq : nW T P P.length q) (h : mk P q = some (i, P1)) : (nd P1 i).2.2.2.2.2.2 = q.2.2.2.2.2.2 := by
  obtain ⟨w1, d1, x1, i1, s1⟩ := mk_ok hw hd hq h
  rw [(w1.2 i i1).2.1, wd_six s1, ← (nW_x hq (Nat.le_refl _) x1).2.1]
theorem kv_u {x : Int32} (h : kv x = true) : ∃ u : Nat, u < 199 ∧ x = nI u - nI 99 ∧ x + nI 99 = nI u := by
  have h2 := of_decide_eq_true h
  have a1 : (nI 99 : Int32).toInt = 99 := by decide
  have a2 : (-(nI 99) : Int32).toInt = -99 := by decide
  rw [Int32.lt_iff_toInt_lt, Int32.lt_iff_toInt_lt, a1, a2] at h2
  have e : x = nI (x.toInt + 99).toNat - nI 99 := by
    refine Int32.toInt_inj.mp ?_
    rw [pk_sub_toInt (by omega) (by omega)]
    omega
  refine ⟨(x.toInt + 99).toNat, by omega, e, ?_⟩
  have e2 : ∀ y : Int32, y - nI 99 + nI 99 = y := fun y => Int32.sub_add_cancel y (nI 99)
  rw [show x + nI 99 = nI (x.toInt + 99).toNat - nI 99 + nI 99 from by rw [← e]]
  exact e2 _
theorem kv_of {u : Nat} (h : u < 199) : kv (nI u - nI 99) = true := by
  refine decide_eq_true ?_
  have a1 : (nI 99 : Int32).toInt = 99 := by decide
  have a2 : (-(nI 99) : Int32).toInt = -99 := by decide
  rw [Int32.lt_iff_toInt_lt, Int32.lt_iff_toInt_lt, a1, a2, pk_sub_toInt (by omega) (by omega)]
  omega
/-- numbers of filters that fit a width -/
def okL (w : Nat) (L : List Nat) : Prop := ∀ e, e ∈ L → e / 1200 < w ∧ e % 200 < 199
theorem qco_ok {T : QT} {P : List Nd} {n : Nat} (h : nW T P n (nd P n)) (h1 : (nd P n).1 = 1) : qco (nd P n) / 1200 = (nd P n).2.2.2.2.1 ∧ qco (nd P n) / 200 % 6 = (nd P n).2.2.2.1 ∧ qco (nd P n) % 200 < 199 ∧ (nd P n).2.2.2.2.2.1 = nI (qco (nd P n) % 200) - nI 99 := by
  obtain ⟨⟨b1, b2, b3, b4, b5, b6, b7⟩, hwd, c0, c1, c2, c3, c4, c5⟩ := h
  obtain ⟨u, hu, e1, e2⟩ := kv_u (c2 h1).2.2
  have e3 : qco (nd P n) = 1200 * (nd P n).2.2.2.2.1 + 200 * (nd P n).2.2.2.1 + u := by
    unfold qco
    rw [e2, nI_clamp (by omega)]
  have e4 : qco (nd P n) % 200 = u := by omega
  exact ⟨by omega, by omega, by omega, by rw [e4]; exact e1⟩
theorem fq_w {T : QT} {P : List Nd} {a e : Nat} (hw : Pw T P) (ha : a < P.length) (h1 : e / 1200 < (nd P a).2.2.2.2.2.2) (h2 : e % 200 < 199) : nW T P P.length (fq a e (nd P a).2.2.2.2.2.2) := by
  have h24 := hw.1
  have w6 := (hw.2 a ha).1.2.2.2.2.2.2
  have w1 := (hw.2 a ha).1.2.2.2.2.2.1
  refine ⟨⟨by show 1 < 5; omega, by show a < 24; omega, Nat.zero_le _, by show e / 200 % 6 < 6; omega, by show e / 1200 < 6; omega, w1, w6⟩, ?_, fun z => (nomatch z), fun _ => ha, fun _ => ⟨rfl, h1, kv_of h2⟩, fun z => (nomatch z), fun z => (nomatch z), fun z => (nomatch z)⟩
  rfl
theorem ins_mem {e x : Nat} : ∀ {l : List Nat}, x ∈ ins e l ↔ x = e ∨ x ∈ l
  | [] => by simp [ins]
  | y :: l => by
    have ih := ins_mem (e := e) (x := x) (l := l)
    rw [ins]
    split
    · simp
    · rw [List.mem_cons, ih, List.mem_cons]
      constructor
      · rintro (h | h | h)
        · exact Or.inr (Or.inl h)
        · exact Or.inl h
        · exact Or.inr (Or.inr h)
      · rintro (h | h | h)
        · exact Or.inr (Or.inl h)
        · exact Or.inl h
        · exact Or.inr (Or.inr h)
theorem dsc_mem {x : Nat} : ∀ {l : List Nat}, x ∈ dsc l ↔ x ∈ l
  | [] => Iff.rfl
  | y :: l => by
    rw [dsc, ins_mem, dsc_mem (l := l), List.mem_cons]
theorem okL_dsc {w : Nat} {L : List Nat} (h : okL w L) : okL w (dsc L) := fun e he => h e (dsc_mem.mp he)
theorem okL_drop {w n : Nat} {L : List Nat} (h : okL w L) : okL w (L.drop n) := fun e he => h e (List.mem_of_mem_drop he)
theorem okL_take {w n : Nat} {L : List Nat} (h : okL w L) : okL w (L.take n) := fun e he => h e (List.mem_of_mem_take he)
theorem chn_ok {T : QT} : ∀ {es : List Nat} {P P1 : List Nd} {a i w : Nat}, Pw T P → Pd P → a < P.length → (nd P a).2.2.2.2.2.2 = w → okL w es → chn w P a es = some (i, P1) → Pw T P1 ∧ Pd P1 ∧ XP P P1 ∧ i < P1.length ∧ (nd P1 i).2.2.2.2.2.2 = w
  | [], P, P1, a, i, w, hw, hd, ha, ew, hL, h => by
    rw [chn] at h
    cases h
    exact ⟨hw, hd, XP.rf _, ha, ew⟩
  | e :: es, P, P1, a, i, w, hw, hd, ha, ew, hL, h => by
    rw [chn] at h
    cases em : mk P (fq a e w) with
    | none => rw [em] at h; cases h
    | some r =>
      rw [em] at h
      have h2 : chn w r.2 r.1 es = some (i, P1) := h
      have hq : nW T P P.length (fq a e w) := by
        rw [← ew]
        exact fq_w hw ha (by rw [ew]; exact (hL e List.mem_cons_self).1) (hL e List.mem_cons_self).2
      obtain ⟨m1, m2, m3, m4, m5⟩ := mk_ok hw hd hq em
      obtain ⟨x1, x2, x3, x4, x5⟩ := chn_ok m1 m2 m4 (mk_w hw hd hq em) (fun e he => hL e (List.mem_cons_of_mem _ he)) h2
      exact ⟨x1, x2, m3.tr x3, x4, x5⟩
theorem chn_x : ∀ {es : List Nat} {P P1 P2 : List Nd} {a i w : Nat}, chn w P a es = some (i, P1) → (∀ Q j Q1 q, mk Q q = some (j, Q1) → XP Q Q1) → XP P1 P2 → chn w P2 a es = some (i, P2)
  | [], P, P1, P2, a, i, w, h, _, _ => by
    rw [chn] at h ⊢
    cases h
    rfl
  | e :: es, P, P1, P2, a, i, w, h, hm, hx => by
    rw [chn] at h ⊢
    cases em : mk P (fq a e w) with
    | none => rw [em] at h; cases h
    | some r =>
      rw [em] at h
      have h2 : chn w r.2 r.1 es = some (i, P1) := h
      have gen : ∀ {es : List Nat} {P P1 : List Nd} {a i : Nat}, chn w P a es = some (i, P1) → XP P P1 := by
        intro es
        induction es with
        | nil => intro P P1 a i h; rw [chn] at h; cases h; exact XP.rf _
        | cons e es ih =>
          intro P P1 a i h
          rw [chn] at h
          cases em : mk P (fq a e w) with
          | none => rw [em] at h; cases h
          | some r =>
            rw [em] at h
            exact (hm P r.1 r.2 _ (by rw [em])).tr (ih h)
      rw [mk_x (i := r.1) (P1 := r.2) (by rw [em]) ((gen h2).tr hx)]
      exact chn_x h2 hm hx
theorem mk_xp {P P1 : List Nd} {q : Nd} {i : Nat} (h : mk P q = some (i, P1)) : XP P P1 := by
  unfold mk at h
  cases e : fnd P q with
  | some j =>
    rw [e] at h
    have h2 : some (j, P) = some (i, P1) := h
    cases h2
    exact XP.rf _
  | none =>
    rw [e] at h
    have h2 : (if P.length < 24 then some (P.length, P ++ [q]) else none) = some (i, P1) := h
    split at h2
    · cases h2
      exact XP.one _ _
    · cases h2
