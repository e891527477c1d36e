/-! pure: the start: what the constructors leave -/
section ST
def lk9 : List (Nat × Nat × Nat) → Nat → Nat → Option Nat
  | [], _, _ => none
  | (b, i, x) :: M, c, j => if c = b ∧ j = i then some x else lk9 M c j
/-- kinds and sizes (the newest first), references (the newest first) -/
def A9 (S : QS) (L : List (Nat × Nat)) (M : List (Nat × Nat × Nat)) : Prop := S.2.1 = L.length ∧ (∀ j, j < L.length → S.2.2.1 j = (L.reverse.getD j (0, 0)).1 ∧ S.2.2.2.1 j = (L.reverse.getD j (0, 0)).2) ∧ (∀ b i, S.2.2.2.2 b i = lk9 M b i) ∧ ∀ e, e ∈ M → e.1 < L.length ∧ e.2.2 < L.length
theorem lk9_n {M : List (Nat × Nat × Nat)} {b : Nat} (h : ∀ e, e ∈ M → e.1 < b) (i : Nat) : lk9 M b i = none := by
  induction M with
  | nil => rfl
  | cons e M ih =>
    have h1 := h e (List.mem_cons_self ..)
    rw [lk9, if_neg (by omega)]
    exact ih (fun e he => h e (List.mem_cons_of_mem _ he))
theorem lk9_m {M : List (Nat × Nat × Nat)} {b i x : Nat} (h : lk9 M b i = some x) : (b, i, x) ∈ M := by
  induction M with
  | nil => cases h
  | cons e M ih =>
    obtain ⟨c, j, y⟩ := e
    rw [lk9] at h
    by_cases e : b = c ∧ i = j
    · rw [if_pos e] at h
      cases h
      obtain ⟨rfl, rfl⟩ := e
      exact List.mem_cons_self ..
    · rw [if_neg e] at h
      exact List.mem_cons_of_mem _ (ih h)
theorem gR9 {L : List (Nat × Nat)} {q : Nat × Nat} {j : Nat} (h : j < L.length) : (q :: L).reverse.getD j (0, 0) = L.reverse.getD j (0, 0) := by
  rw [List.reverse_cons, List.getD_eq_getElem?_getD, List.getD_eq_getElem?_getD, List.getElem?_append_left (by rw [List.length_reverse]; exact h)]
theorem gR9e {L : List (Nat × Nat)} {q : Nat × Nat} : (q :: L).reverse.getD L.length (0, 0) = q := by
  rw [List.reverse_cons, List.getD_eq_getElem?_getD, List.getElem?_append_right (by rw [List.length_reverse]; exact Nat.le_refl _), List.length_reverse, Nat.sub_self]
  rfl
theorem A9_n {S S1 : QS} {L : List (Nat × Nat)} {M : List (Nat × Nat × Nat)} {a c z : Nat} (h : A9 S L M) (e : S1 = q_nS S a c z) : A9 S1 ((c, z) :: L) M := by
  obtain ⟨h1, h2, h3, h4⟩ := h
  have e9 : ((c, z) :: L).length = L.length + 1 := rfl
  subst e
  refine ⟨?_, fun j hj => ?_, fun b i => ?_, fun e he => ?_⟩
  · show S.2.1 + 1 = _
    omega
  · show (if j = S.2.1 then c else S.2.2.1 j) = _ ∧ (if j = S.2.1 then z else S.2.2.2.1 j) = _
    by_cases e : j = S.2.1
    · rw [if_pos e, if_pos e, e, h1, gR9e]
      exact ⟨rfl, rfl⟩
    · rw [if_neg e, if_neg e, gR9 (by omega)]
      exact h2 j (by omega)
  · show (if b = S.2.1 then (fun _ => none) else S.2.2.2.2 b) i = _
    by_cases e : b = S.2.1
    · rw [if_pos e]
      exact (lk9_n (fun e9 he => by have := (h4 e9 he).1; omega) i).symm
    · rw [if_neg e]
      exact h3 b i
  · have := h4 e he
    omega
theorem A9_r {S S1 : QS} {L : List (Nat × Nat)} {M : List (Nat × Nat × Nat)} {b i x : Nat} (hb : b < L.length) (hx : x < L.length) (h : A9 S L M) (e : S1 = q_sR S (q_u2 S.2.2.2.2 b i (some x))) : A9 S1 L ((b, i, x) :: M) := by
  obtain ⟨h1, h2, h3, h4⟩ := h
  subst e
  refine ⟨h1, h2, fun c j => ?_, fun e he => ?_⟩
  · show (if c = b ∧ j = i then some x else S.2.2.2.2 c j) = lk9 ((b, i, x) :: M) c j
    rw [lk9, h3]
  · rcases List.mem_cons.1 he with e9 | e9
    · rw [e9]
      exact ⟨hb, hx⟩
    · exact h4 e e9
theorem E9_n {S S1 : QS} {L : List (Nat × Nat)} {M : List (Nat × Nat × Nat)} {a c z q : Nat} (hl : L.length < 1000000) (h : A9 S L M) (e : S1 = q_nS S a c z) (hE : S.1 1000000 = q) : S1.1 1000000 = q := by
  subst e
  show (if 1000000 = S.2.1 then a else S.1 1000000) = q
  rw [if_neg (by rw [h.1]; omega)]
  exact hE
theorem E9_r {S S1 : QS} {R : Nat → Nat → Option Nat} {q : Nat} (hE : S.1 1000000 = q) (e : S1 = q_sR S R) : S1.1 1000000 = q := by
  subst e
  exact hE
def lI9 : List (Nat × Nat × Int32) → Nat → Nat → Int32
  | [], _, _ => 0
  | (b, i, v) :: E, c, j => if c = b ∧ j = i then v else lI9 E c j
def B9 (I : QI) (E : List (Nat × Nat × Int32)) : Prop := ∀ b i, I b i = lI9 E b i
theorem lI9_n {E : List (Nat × Nat × Int32)} {b : Nat} (h : ∀ e, e ∈ E → e.1 ≠ b) (i : Nat) : lI9 E b i = 0 := by
  induction E with
  | nil => rfl
  | cons e E ih =>
    have h1 := h e (List.mem_cons_self ..)
    rw [lI9, if_neg (fun z => h1 z.1.symm)]
    exact ih (fun e he => h e (List.mem_cons_of_mem _ he))
theorem B9_w {I I1 : QI} {E : List (Nat × Nat × Int32)} {b : Nat} (hb : ∀ e, e ∈ E.map Prod.fst → e ≠ b) (h : B9 I E) (e : I1 = q_rw I b (fun _ => 0)) : B9 I1 E := by
  subst e
  intro c j
  show (if c = b then (fun _ => (0 : Int32)) else I c) j = _
  by_cases e : c = b
  · rw [if_pos e, e]
    exact (lI9_n (fun e he => hb e.1 (List.mem_map_of_mem he)) j).symm
  · rw [if_neg e]
    exact h c j
theorem B9_u {I I1 : QI} {E : List (Nat × Nat × Int32)} {b i : Nat} {v : Int32} (h : B9 I E) (e : I1 = q_u2 I b i v) : B9 I1 ((b, i, v) :: E) := by
  subst e
  intro c j
  show (if c = b ∧ j = i then v else I c j) = lI9 ((b, i, v) :: E) c j
  rw [lI9, h]
def L102 : List (Nat × Nat) := [(9, 4), (9, 4), (9, 4), (9, 4), (6, 0), (9, 16), (9, 16), (9, 6), (9, 4), (9, 6), (9, 6), (9, 6), (9, 6), (1, 0), (9, 256), (9, 6144), (9, 256), (9, 256), (9, 25), (9, 600), (3, 0), (11, 200), (11, 24), (9, 24), (9, 24), (9, 24), (9, 28800), (0, 0), (9, 24), (9, 24), (9, 24), (9, 24), (9, 24), (9, 24), (9, 24), (2, 0), (11, 10), (9, 30), (5, 0), (11, 10), (9, 30), (5, 0), (11, 10), (9, 30), (5, 0), (11, 10), (9, 30), (5, 0), (12, 4), (4, 0), (7, 0), (9, 4), (9, 4), (9, 4), (9, 4), (6, 0), (9, 16), (9, 16), (9, 6), (9, 4), (9, 6), (9, 6), (9, 6), (9, 6), (1, 0), (9, 256), (9, 6144), (9, 256), (9, 256), (9, 25), (9, 600), (3, 0), (11, 200), (11, 24), (9, 24), (9, 24), (9, 24), (9, 28800), (0, 0), (9, 24), (9, 24), (9, 24), (9, 24), (9, 24), (9, 24), (9, 24), (2, 0), (11, 10), (9, 30), (5, 0), (11, 10), (9, 30), (5, 0), (11, 10), (9, 30), (5, 0), (11, 10), (9, 30), (5, 0), (12, 4), (4, 0), (7, 0)]
def M102 : List (Nat × Nat × Nat) := [(51, 5, 97), (97, 4, 101), (97, 3, 100), (97, 2, 99), (97, 1, 98), (97, 0, 52), (51, 4, 88), (88, 8, 96), (88, 7, 95), (88, 6, 94), (88, 5, 93), (88, 4, 92), (88, 3, 91), (88, 2, 90), (88, 1, 89), (88, 0, 52), (51, 3, 81), (81, 6, 87), (81, 5, 86), (81, 4, 85), (81, 3, 84), (81, 2, 83), (81, 1, 82), (81, 0, 66), (51, 2, 74), (74, 7, 80), (74, 6, 79), (74, 5, 78), (74, 4, 77), (74, 3, 76), (74, 2, 75), (74, 1, 66), (74, 0, 52), (51, 1, 66), (66, 7, 73), (66, 6, 72), (66, 5, 71), (66, 4, 70), (66, 3, 69), (66, 2, 68), (66, 1, 67), (66, 0, 52), (51, 0, 52), (53, 3, 63), (63, 1, 65), (63, 0, 64), (53, 2, 60), (60, 1, 62), (60, 0, 61), (53, 1, 57), (57, 1, 59), (57, 0, 58), (53, 0, 54), (54, 1, 56), (54, 0, 55), (52, 0, 53), (0, 5, 46), (46, 4, 50), (46, 3, 49), (46, 2, 48), (46, 1, 47), (46, 0, 1), (0, 4, 37), (37, 8, 45), (37, 7, 44), (37, 6, 43), (37, 5, 42), (37, 4, 41), (37, 3, 40), (37, 2, 39), (37, 1, 38), (37, 0, 1), (0, 3, 30), (30, 6, 36), (30, 5, 35), (30, 4, 34), (30, 3, 33), (30, 2, 32), (30, 1, 31), (30, 0, 15), (0, 2, 23), (23, 7, 29), (23, 6, 28), (23, 5, 27), (23, 4, 26), (23, 3, 25), (23, 2, 24), (23, 1, 15), (23, 0, 1), (0, 1, 15), (15, 7, 22), (15, 6, 21), (15, 5, 20), (15, 4, 19), (15, 3, 18), (15, 2, 17), (15, 1, 16), (15, 0, 1), (0, 0, 1), (2, 3, 12), (12, 1, 14), (12, 0, 13), (2, 2, 9), (9, 1, 11), (9, 0, 10), (2, 1, 6), (6, 1, 8), (6, 0, 7), (2, 0, 3), (3, 1, 5), (3, 0, 4), (1, 0, 2)]
def E102 : List (Nat × Nat × Int32) := [(51, 6, 100000), (52, 2, 1), (0, 6, 100000), (1, 2, 1)]
set_option maxRecDepth 100000 in
set_option maxHeartbeats 4000000 in
theorem law_start {X : QX} {post : Int32 → Prop} {S : QS} {I : QI} {J : QJ} (hA : A9 S [] []) (hB : B9 I []) (hE : S.1 1000000 = X.2.1.1) (h : ∀ (S : QS) (I : QI) (J : QJ), A9 S L102 M102 → B9 I E102 → S.1 1000000 = X.2.1.1 → Sl X S ∧ ∃ f : Nat, wL_law_18 X post f 0 I S 102 74228) : wL_start X post S I J := by
  unfold wL_start
  intro _ S1 e1
  replace hE := E9_n (c := 7) (z := 0) (by decide) hA e1 hE
  replace hA := A9_n (c := 7) (z := 0) hA e1
  clear e1
  intro I1 e1
  replace hB := B9_w (b := 0) (by decide) hB e1
  clear e1
  unfold w_X7_init_at0
  intro _ S1 e1
  replace hE := E9_n (c := 4) (z := 0) (by decide) hA e1 hE
  replace hA := A9_n (c := 4) (z := 0) hA e1
  clear e1
  intro I1 e1
  replace hB := B9_w (b := 1) (by decide) hB e1
  clear e1
  unfold w_X4_init_at1
  intro _ S1 e1
  replace hE := E9_n (c := 12) (z := 4) (by decide) hA e1 hE
  replace hA := A9_n (c := 12) (z := 4) hA e1
  clear e1
  intro S1 e1
  replace hE := E9_r hE e1
  replace hA := A9_r (b := 1) (i := 0) (x := 2) (by decide) (by decide) hA e1
  clear e1
  intro _ S1 e1
  replace hE := E9_n (c := 5) (z := 0) (by decide) hA e1 hE
  replace hA := A9_n (c := 5) (z := 0) hA e1
  clear e1
  intro I1 e1
  replace hB := B9_w (b := 3) (by decide) hB e1
  clear e1
  unfold w_X5_init_at3
  intro _ S1 e1
  replace hE := E9_n (c := 9) (z := 30) (by decide) hA e1 hE
  replace hA := A9_n (c := 9) (z := 30) hA e1
  clear e1
  intro I1 e1
  replace hB := B9_w (b := 4) (by decide) hB e1
  clear e1
  intro S1 e1
  replace hE := E9_r hE e1
  replace hA := A9_r (b := 3) (i := 0) (x := 4) (by decide) (by decide) hA e1
  clear e1
  intro _ S1 e1
  replace hE := E9_n (c := 11) (z := 10) (by decide) hA e1 hE
  replace hA := A9_n (c := 11) (z := 10) hA e1
  clear e1
  intro I1 e1
  replace hB := B9_w (b := 5) (by decide) hB e1
  clear e1
  intro S1 e1
  replace hE := E9_r hE e1
  replace hA := A9_r (b := 3) (i := 1) (x := 5) (by decide) (by decide) hA e1
  clear e1
  refine (fun h => h : _ → _) ?_
  intro S1 e1
  replace hE := E9_r hE e1
  replace hA := A9_r (b := 2) (i := 0) (x := 3) (by decide) (by decide) hA e1
  clear e1
  intro _ S1 e1
  replace hE := E9_n (c := 5) (z := 0) (by decide) hA e1 hE
  replace hA := A9_n (c := 5) (z := 0) hA e1
  clear e1
  intro I1 e1
  replace hB := B9_w (b := 6) (by decide) hB e1
  clear e1
  unfold w_X5_init_at6
  intro _ S1 e1
  replace hE := E9_n (c := 9) (z := 30) (by decide) hA e1 hE
  replace hA := A9_n (c := 9) (z := 30) hA e1
  clear e1
  intro I1 e1
  replace hB := B9_w (b := 7) (by decide) hB e1
  clear e1
  intro S1 e1
  replace hE := E9_r hE e1
  replace hA := A9_r (b := 6) (i := 0) (x := 7) (by decide) (by decide) hA e1
  clear e1
  intro _ S1 e1
  replace hE := E9_n (c := 11) (z := 10) (by decide) hA e1 hE
  replace hA := A9_n (c := 11) (z := 10) hA e1
  clear e1
  intro I1 e1
  replace hB := B9_w (b := 8) (by decide) hB e1
  clear e1
  intro S1 e1
  replace hE := E9_r hE e1
  replace hA := A9_r (b := 6) (i := 1) (x := 8) (by decide) (by decide) hA e1
  clear e1
  refine (fun h => h : _ → _) ?_
  intro S1 e1
  replace hE := E9_r hE e1
  replace hA := A9_r (b := 2) (i := 1) (x := 6) (by decide) (by decide) hA e1
  clear e1
  intro _ S1 e1
  replace hE := E9_n (c := 5) (z := 0) (by decide) hA e1 hE
  replace hA := A9_n (c := 5) (z := 0) hA e1
  clear e1
  intro I1 e1
  replace hB := B9_w (b := 9) (by decide) hB e1
  clear e1
  unfold w_X5_init_at9
  intro _ S1 e1
  replace hE := E9_n (c := 9) (z := 30) (by decide) hA e1 hE
  replace hA := A9_n (c := 9) (z := 30) hA e1
  clear e1
  intro I1 e1
  replace hB := B9_w (b := 10) (by decide) hB e1
  clear e1
  intro S1 e1
  replace hE := E9_r hE e1
  replace hA := A9_r (b := 9) (i := 0) (x := 10) (by decide) (by decide) hA e1
  clear e1
  intro _ S1 e1
  replace hE := E9_n (c := 11) (z := 10) (by decide) hA e1 hE
  replace hA := A9_n (c := 11) (z := 10) hA e1
  clear e1
  intro I1 e1
  replace hB := B9_w (b := 11) (by decide) hB e1
  clear e1
  intro S1 e1
  replace hE := E9_r hE e1
  replace hA := A9_r (b := 9) (i := 1) (x := 11) (by decide) (by decide) hA e1
  clear e1
  refine (fun h => h : _ → _) ?_
  intro S1 e1
  replace hE := E9_r hE e1
  replace hA := A9_r (b := 2) (i := 2) (x := 9) (by decide) (by decide) hA e1
  clear e1
  intro _ S1 e1
  replace hE := E9_n (c := 5) (z := 0) (by decide) hA e1 hE
  replace hA := A9_n (c := 5) (z := 0) hA e1
  clear e1
  intro I1 e1
  replace hB := B9_w (b := 12) (by decide) hB e1
  clear e1
  unfold w_X5_init_at12
  intro _ S1 e1
  replace hE := E9_n (c := 9) (z := 30) (by decide) hA e1 hE
  replace hA := A9_n (c := 9) (z := 30) hA e1
  clear e1
  intro I1 e1
  replace hB := B9_w (b := 13) (by decide) hB e1
  clear e1
  intro S1 e1
  replace hE := E9_r hE e1
  replace hA := A9_r (b := 12) (i := 0) (x := 13) (by decide) (by decide) hA e1
  clear e1
  intro _ S1 e1
  replace hE := E9_n (c := 11) (z := 10) (by decide) hA e1 hE
  replace hA := A9_n (c := 11) (z := 10) hA e1
  clear e1
  intro I1 e1
  replace hB := B9_w (b := 14) (by decide) hB e1
  clear e1
  intro S1 e1
  replace hE := E9_r hE e1
  replace hA := A9_r (b := 12) (i := 1) (x := 14) (by decide) (by decide) hA e1
  clear e1
  refine (fun h => h : _ → _) ?_
  intro S1 e1
  replace hE := E9_r hE e1
  replace hA := A9_r (b := 2) (i := 3) (x := 12) (by decide) (by decide) hA e1
  clear e1
  intro I1 e1
  replace hB := B9_u (b := 1) (i := 2) (v := 1) hB e1
  clear e1
  refine (fun h => h : _ → _) ?_
  intro S1 e1
  replace hE := E9_r hE e1
  replace hA := A9_r (b := 0) (i := 0) (x := 1) (by decide) (by decide) hA e1
  clear e1
  intro _ S1 e1
  replace hE := E9_n (c := 2) (z := 0) (by decide) hA e1 hE
  replace hA := A9_n (c := 2) (z := 0) hA e1
  clear e1
  intro I1 e1
  replace hB := B9_w (b := 15) (by decide) hB e1
  clear e1
  unfold w_X2_init_at15
  intro S1 e1
  replace hE := E9_r hE e1
  replace hA := A9_r (b := 15) (i := 0) (x := 1) (by decide) (by decide) hA e1
  clear e1
  intro _ S1 e1
  replace hE := E9_n (c := 9) (z := 24) (by decide) hA e1 hE
  replace hA := A9_n (c := 9) (z := 24) hA e1
  clear e1
  intro I1 e1
  replace hB := B9_w (b := 16) (by decide) hB e1
  clear e1
  intro S1 e1
  replace hE := E9_r hE e1
  replace hA := A9_r (b := 15) (i := 1) (x := 16) (by decide) (by decide) hA e1
  clear e1
  intro _ S1 e1
  replace hE := E9_n (c := 9) (z := 24) (by decide) hA e1 hE
  replace hA := A9_n (c := 9) (z := 24) hA e1
  clear e1
  intro I1 e1
  replace hB := B9_w (b := 17) (by decide) hB e1
  clear e1
  intro S1 e1
  replace hE := E9_r hE e1
  replace hA := A9_r (b := 15) (i := 2) (x := 17) (by decide) (by decide) hA e1
  clear e1
  intro _ S1 e1
  replace hE := E9_n (c := 9) (z := 24) (by decide) hA e1 hE
  replace hA := A9_n (c := 9) (z := 24) hA e1
  clear e1
  intro I1 e1
  replace hB := B9_w (b := 18) (by decide) hB e1
  clear e1
  intro S1 e1
  replace hE := E9_r hE e1
  replace hA := A9_r (b := 15) (i := 3) (x := 18) (by decide) (by decide) hA e1
  clear e1
  intro _ S1 e1
  replace hE := E9_n (c := 9) (z := 24) (by decide) hA e1 hE
  replace hA := A9_n (c := 9) (z := 24) hA e1
  clear e1
  intro I1 e1
  replace hB := B9_w (b := 19) (by decide) hB e1
  clear e1
  intro S1 e1
  replace hE := E9_r hE e1
  replace hA := A9_r (b := 15) (i := 4) (x := 19) (by decide) (by decide) hA e1
  clear e1
  intro _ S1 e1
  replace hE := E9_n (c := 9) (z := 24) (by decide) hA e1 hE
  replace hA := A9_n (c := 9) (z := 24) hA e1
  clear e1
  intro I1 e1
  replace hB := B9_w (b := 20) (by decide) hB e1
  clear e1
  intro S1 e1
  replace hE := E9_r hE e1
  replace hA := A9_r (b := 15) (i := 5) (x := 20) (by decide) (by decide) hA e1
  clear e1
  intro _ S1 e1
  replace hE := E9_n (c := 9) (z := 24) (by decide) hA e1 hE
  replace hA := A9_n (c := 9) (z := 24) hA e1
  clear e1
  intro I1 e1
  replace hB := B9_w (b := 21) (by decide) hB e1
  clear e1
  intro S1 e1
  replace hE := E9_r hE e1
  replace hA := A9_r (b := 15) (i := 6) (x := 21) (by decide) (by decide) hA e1
  clear e1
  intro _ S1 e1
  replace hE := E9_n (c := 9) (z := 24) (by decide) hA e1 hE
  replace hA := A9_n (c := 9) (z := 24) hA e1
  clear e1
  intro I1 e1
  replace hB := B9_w (b := 22) (by decide) hB e1
  clear e1
  intro S1 e1
  replace hE := E9_r hE e1
  replace hA := A9_r (b := 15) (i := 7) (x := 22) (by decide) (by decide) hA e1
  clear e1
  refine (fun h => h : _ → _) ?_
  intro S1 e1
  replace hE := E9_r hE e1
  replace hA := A9_r (b := 0) (i := 1) (x := 15) (by decide) (by decide) hA e1
  clear e1
  intro _ S1 e1
  replace hE := E9_n (c := 0) (z := 0) (by decide) hA e1 hE
  replace hA := A9_n (c := 0) (z := 0) hA e1
  clear e1
  intro I1 e1
  replace hB := B9_w (b := 23) (by decide) hB e1
  clear e1
  unfold w_X0_init_at23
  intro S1 e1
  replace hE := E9_r hE e1
  replace hA := A9_r (b := 23) (i := 0) (x := 1) (by decide) (by decide) hA e1
  clear e1
  intro S1 e1
  replace hE := E9_r hE e1
  replace hA := A9_r (b := 23) (i := 1) (x := 15) (by decide) (by decide) hA e1
  clear e1
  intro _ S1 e1
  replace hE := E9_n (c := 9) (z := 28800) (by decide) hA e1 hE
  replace hA := A9_n (c := 9) (z := 28800) hA e1
  clear e1
  intro I1 e1
  replace hB := B9_w (b := 24) (by decide) hB e1
  clear e1
  intro S1 e1
  replace hE := E9_r hE e1
  replace hA := A9_r (b := 23) (i := 2) (x := 24) (by decide) (by decide) hA e1
  clear e1
  intro _ S1 e1
  replace hE := E9_n (c := 9) (z := 24) (by decide) hA e1 hE
  replace hA := A9_n (c := 9) (z := 24) hA e1
  clear e1
  intro I1 e1
  replace hB := B9_w (b := 25) (by decide) hB e1
  clear e1
  intro S1 e1
  replace hE := E9_r hE e1
  replace hA := A9_r (b := 23) (i := 3) (x := 25) (by decide) (by decide) hA e1
  clear e1
  intro _ S1 e1
  replace hE := E9_n (c := 9) (z := 24) (by decide) hA e1 hE
  replace hA := A9_n (c := 9) (z := 24) hA e1
  clear e1
  intro I1 e1
  replace hB := B9_w (b := 26) (by decide) hB e1
  clear e1
  intro S1 e1
  replace hE := E9_r hE e1
  replace hA := A9_r (b := 23) (i := 4) (x := 26) (by decide) (by decide) hA e1
  clear e1
  intro _ S1 e1
  replace hE := E9_n (c := 9) (z := 24) (by decide) hA e1 hE
  replace hA := A9_n (c := 9) (z := 24) hA e1
  clear e1
  intro I1 e1
  replace hB := B9_w (b := 27) (by decide) hB e1
  clear e1
  intro S1 e1
  replace hE := E9_r hE e1
  replace hA := A9_r (b := 23) (i := 5) (x := 27) (by decide) (by decide) hA e1
  clear e1
  intro _ S1 e1
  replace hE := E9_n (c := 11) (z := 24) (by decide) hA e1 hE
  replace hA := A9_n (c := 11) (z := 24) hA e1
  clear e1
  intro I1 e1
  replace hB := B9_w (b := 28) (by decide) hB e1
  clear e1
  intro S1 e1
  replace hE := E9_r hE e1
  replace hA := A9_r (b := 23) (i := 6) (x := 28) (by decide) (by decide) hA e1
  clear e1
  intro _ S1 e1
  replace hE := E9_n (c := 11) (z := 200) (by decide) hA e1 hE
  replace hA := A9_n (c := 11) (z := 200) hA e1
  clear e1
  intro I1 e1
  replace hB := B9_w (b := 29) (by decide) hB e1
  clear e1
  intro S1 e1
  replace hE := E9_r hE e1
  replace hA := A9_r (b := 23) (i := 7) (x := 29) (by decide) (by decide) hA e1
  clear e1
  refine (fun h => h : _ → _) ?_
  intro S1 e1
  replace hE := E9_r hE e1
  replace hA := A9_r (b := 0) (i := 2) (x := 23) (by decide) (by decide) hA e1
  clear e1
  intro _ S1 e1
  replace hE := E9_n (c := 3) (z := 0) (by decide) hA e1 hE
  replace hA := A9_n (c := 3) (z := 0) hA e1
  clear e1
  intro I1 e1
  replace hB := B9_w (b := 30) (by decide) hB e1
  clear e1
  unfold w_X3_init_at30
  intro S1 e1
  replace hE := E9_r hE e1
  replace hA := A9_r (b := 30) (i := 0) (x := 15) (by decide) (by decide) hA e1
  clear e1
  intro _ S1 e1
  replace hE := E9_n (c := 9) (z := 600) (by decide) hA e1 hE
  replace hA := A9_n (c := 9) (z := 600) hA e1
  clear e1
  intro I1 e1
  replace hB := B9_w (b := 31) (by decide) hB e1
  clear e1
  intro S1 e1
  replace hE := E9_r hE e1
  replace hA := A9_r (b := 30) (i := 1) (x := 31) (by decide) (by decide) hA e1
  clear e1
  intro _ S1 e1
  replace hE := E9_n (c := 9) (z := 25) (by decide) hA e1 hE
  replace hA := A9_n (c := 9) (z := 25) hA e1
  clear e1
  intro I1 e1
  replace hB := B9_w (b := 32) (by decide) hB e1
  clear e1
  intro S1 e1
  replace hE := E9_r hE e1
  replace hA := A9_r (b := 30) (i := 2) (x := 32) (by decide) (by decide) hA e1
  clear e1
  intro _ S1 e1
  replace hE := E9_n (c := 9) (z := 256) (by decide) hA e1 hE
  replace hA := A9_n (c := 9) (z := 256) hA e1
  clear e1
  intro I1 e1
  replace hB := B9_w (b := 33) (by decide) hB e1
  clear e1
  intro S1 e1
  replace hE := E9_r hE e1
  replace hA := A9_r (b := 30) (i := 3) (x := 33) (by decide) (by decide) hA e1
  clear e1
  intro _ S1 e1
  replace hE := E9_n (c := 9) (z := 256) (by decide) hA e1 hE
  replace hA := A9_n (c := 9) (z := 256) hA e1
  clear e1
  intro I1 e1
  replace hB := B9_w (b := 34) (by decide) hB e1
  clear e1
  intro S1 e1
  replace hE := E9_r hE e1
  replace hA := A9_r (b := 30) (i := 4) (x := 34) (by decide) (by decide) hA e1
  clear e1
  intro _ S1 e1
  replace hE := E9_n (c := 9) (z := 6144) (by decide) hA e1 hE
  replace hA := A9_n (c := 9) (z := 6144) hA e1
  clear e1
  intro I1 e1
  replace hB := B9_w (b := 35) (by decide) hB e1
  clear e1
  intro S1 e1
  replace hE := E9_r hE e1
  replace hA := A9_r (b := 30) (i := 5) (x := 35) (by decide) (by decide) hA e1
  clear e1
  intro _ S1 e1
  replace hE := E9_n (c := 9) (z := 256) (by decide) hA e1 hE
  replace hA := A9_n (c := 9) (z := 256) hA e1
  clear e1
  intro I1 e1
  replace hB := B9_w (b := 36) (by decide) hB e1
  clear e1
  intro S1 e1
  replace hE := E9_r hE e1
  replace hA := A9_r (b := 30) (i := 6) (x := 36) (by decide) (by decide) hA e1
  clear e1
  refine (fun h => h : _ → _) ?_
  intro S1 e1
  replace hE := E9_r hE e1
  replace hA := A9_r (b := 0) (i := 3) (x := 30) (by decide) (by decide) hA e1
  clear e1
  intro _ S1 e1
  replace hE := E9_n (c := 1) (z := 0) (by decide) hA e1 hE
  replace hA := A9_n (c := 1) (z := 0) hA e1
  clear e1
  intro I1 e1
  replace hB := B9_w (b := 37) (by decide) hB e1
  clear e1
  unfold w_X1_init_at37
  intro S1 e1
  replace hE := E9_r hE e1
  replace hA := A9_r (b := 37) (i := 0) (x := 1) (by decide) (by decide) hA e1
  clear e1
  intro _ S1 e1
  replace hE := E9_n (c := 9) (z := 6) (by decide) hA e1 hE
  replace hA := A9_n (c := 9) (z := 6) hA e1
  clear e1
  intro I1 e1
  replace hB := B9_w (b := 38) (by decide) hB e1
  clear e1
  intro S1 e1
  replace hE := E9_r hE e1
  replace hA := A9_r (b := 37) (i := 1) (x := 38) (by decide) (by decide) hA e1
  clear e1
  intro _ S1 e1
  replace hE := E9_n (c := 9) (z := 6) (by decide) hA e1 hE
  replace hA := A9_n (c := 9) (z := 6) hA e1
  clear e1
  intro I1 e1
  replace hB := B9_w (b := 39) (by decide) hB e1
  clear e1
  intro S1 e1
  replace hE := E9_r hE e1
  replace hA := A9_r (b := 37) (i := 2) (x := 39) (by decide) (by decide) hA e1
  clear e1
  intro _ S1 e1
  replace hE := E9_n (c := 9) (z := 6) (by decide) hA e1 hE
  replace hA := A9_n (c := 9) (z := 6) hA e1
  clear e1
  intro I1 e1
  replace hB := B9_w (b := 40) (by decide) hB e1
  clear e1
  intro S1 e1
  replace hE := E9_r hE e1
  replace hA := A9_r (b := 37) (i := 3) (x := 40) (by decide) (by decide) hA e1
  clear e1
  intro _ S1 e1
  replace hE := E9_n (c := 9) (z := 6) (by decide) hA e1 hE
  replace hA := A9_n (c := 9) (z := 6) hA e1
  clear e1
  intro I1 e1
  replace hB := B9_w (b := 41) (by decide) hB e1
  clear e1
  intro S1 e1
  replace hE := E9_r hE e1
  replace hA := A9_r (b := 37) (i := 4) (x := 41) (by decide) (by decide) hA e1
  clear e1
  intro _ S1 e1
  replace hE := E9_n (c := 9) (z := 4) (by decide) hA e1 hE
  replace hA := A9_n (c := 9) (z := 4) hA e1
  clear e1
  intro I1 e1
  replace hB := B9_w (b := 42) (by decide) hB e1
  clear e1
  intro S1 e1
  replace hE := E9_r hE e1
  replace hA := A9_r (b := 37) (i := 5) (x := 42) (by decide) (by decide) hA e1
  clear e1
  intro _ S1 e1
  replace hE := E9_n (c := 9) (z := 6) (by decide) hA e1 hE
  replace hA := A9_n (c := 9) (z := 6) hA e1
  clear e1
  intro I1 e1
  replace hB := B9_w (b := 43) (by decide) hB e1
  clear e1
  intro S1 e1
  replace hE := E9_r hE e1
  replace hA := A9_r (b := 37) (i := 6) (x := 43) (by decide) (by decide) hA e1
  clear e1
  intro _ S1 e1
  replace hE := E9_n (c := 9) (z := 16) (by decide) hA e1 hE
  replace hA := A9_n (c := 9) (z := 16) hA e1
  clear e1
  intro I1 e1
  replace hB := B9_w (b := 44) (by decide) hB e1
  clear e1
  intro S1 e1
  replace hE := E9_r hE e1
  replace hA := A9_r (b := 37) (i := 7) (x := 44) (by decide) (by decide) hA e1
  clear e1
  intro _ S1 e1
  replace hE := E9_n (c := 9) (z := 16) (by decide) hA e1 hE
  replace hA := A9_n (c := 9) (z := 16) hA e1
  clear e1
  intro I1 e1
  replace hB := B9_w (b := 45) (by decide) hB e1
  clear e1
  intro S1 e1
  replace hE := E9_r hE e1
  replace hA := A9_r (b := 37) (i := 8) (x := 45) (by decide) (by decide) hA e1
  clear e1
  refine (fun h => h : _ → _) ?_
  intro S1 e1
  replace hE := E9_r hE e1
  replace hA := A9_r (b := 0) (i := 4) (x := 37) (by decide) (by decide) hA e1
  clear e1
  intro _ S1 e1
  replace hE := E9_n (c := 6) (z := 0) (by decide) hA e1 hE
  replace hA := A9_n (c := 6) (z := 0) hA e1
  clear e1
  intro I1 e1
  replace hB := B9_w (b := 46) (by decide) hB e1
  clear e1
  unfold w_X6_init_at46
  intro S1 e1
  replace hE := E9_r hE e1
  replace hA := A9_r (b := 46) (i := 0) (x := 1) (by decide) (by decide) hA e1
  clear e1
  intro _ S1 e1
  replace hE := E9_n (c := 9) (z := 4) (by decide) hA e1 hE
  replace hA := A9_n (c := 9) (z := 4) hA e1
  clear e1
  intro I1 e1
  replace hB := B9_w (b := 47) (by decide) hB e1
  clear e1
  intro S1 e1
  replace hE := E9_r hE e1
  replace hA := A9_r (b := 46) (i := 1) (x := 47) (by decide) (by decide) hA e1
  clear e1
  intro _ S1 e1
  replace hE := E9_n (c := 9) (z := 4) (by decide) hA e1 hE
  replace hA := A9_n (c := 9) (z := 4) hA e1
  clear e1
  intro I1 e1
  replace hB := B9_w (b := 48) (by decide) hB e1
  clear e1
  intro S1 e1
  replace hE := E9_r hE e1
  replace hA := A9_r (b := 46) (i := 2) (x := 48) (by decide) (by decide) hA e1
  clear e1
  intro _ S1 e1
  replace hE := E9_n (c := 9) (z := 4) (by decide) hA e1 hE
  replace hA := A9_n (c := 9) (z := 4) hA e1
  clear e1
  intro I1 e1
  replace hB := B9_w (b := 49) (by decide) hB e1
  clear e1
  intro S1 e1
  replace hE := E9_r hE e1
  replace hA := A9_r (b := 46) (i := 3) (x := 49) (by decide) (by decide) hA e1
  clear e1
  intro _ S1 e1
  replace hE := E9_n (c := 9) (z := 4) (by decide) hA e1 hE
  replace hA := A9_n (c := 9) (z := 4) hA e1
  clear e1
  intro I1 e1
  replace hB := B9_w (b := 50) (by decide) hB e1
  clear e1
  intro S1 e1
  replace hE := E9_r hE e1
  replace hA := A9_r (b := 46) (i := 4) (x := 50) (by decide) (by decide) hA e1
  clear e1
  refine (fun h => h : _ → _) ?_
  intro S1 e1
  replace hE := E9_r hE e1
  replace hA := A9_r (b := 0) (i := 5) (x := 46) (by decide) (by decide) hA e1
  clear e1
  intro I1 e1
  replace hB := B9_u (b := 0) (i := 6) (v := 100000) hB e1
  clear e1
  refine (fun h => h : _ → _) ?_
  intro _ S1 e1
  replace hE := E9_n (c := 7) (z := 0) (by decide) hA e1 hE
  replace hA := A9_n (c := 7) (z := 0) hA e1
  clear e1
  intro I1 e1
  replace hB := B9_w (b := 51) (by decide) hB e1
  clear e1
  unfold w_X7_init_at51
  intro _ S1 e1
  replace hE := E9_n (c := 4) (z := 0) (by decide) hA e1 hE
  replace hA := A9_n (c := 4) (z := 0) hA e1
  clear e1
  intro I1 e1
  replace hB := B9_w (b := 52) (by decide) hB e1
  clear e1
  unfold w_X4_init_at52
  intro _ S1 e1
  replace hE := E9_n (c := 12) (z := 4) (by decide) hA e1 hE
  replace hA := A9_n (c := 12) (z := 4) hA e1
  clear e1
  intro S1 e1
  replace hE := E9_r hE e1
  replace hA := A9_r (b := 52) (i := 0) (x := 53) (by decide) (by decide) hA e1
  clear e1
  intro _ S1 e1
  replace hE := E9_n (c := 5) (z := 0) (by decide) hA e1 hE
  replace hA := A9_n (c := 5) (z := 0) hA e1
  clear e1
  intro I1 e1
  replace hB := B9_w (b := 54) (by decide) hB e1
  clear e1
  unfold w_X5_init_at54
  intro _ S1 e1
  replace hE := E9_n (c := 9) (z := 30) (by decide) hA e1 hE
  replace hA := A9_n (c := 9) (z := 30) hA e1
  clear e1
  intro I1 e1
  replace hB := B9_w (b := 55) (by decide) hB e1
  clear e1
  intro S1 e1
  replace hE := E9_r hE e1
  replace hA := A9_r (b := 54) (i := 0) (x := 55) (by decide) (by decide) hA e1
  clear e1
  intro _ S1 e1
  replace hE := E9_n (c := 11) (z := 10) (by decide) hA e1 hE
  replace hA := A9_n (c := 11) (z := 10) hA e1
  clear e1
  intro I1 e1
  replace hB := B9_w (b := 56) (by decide) hB e1
  clear e1
  intro S1 e1
  replace hE := E9_r hE e1
  replace hA := A9_r (b := 54) (i := 1) (x := 56) (by decide) (by decide) hA e1
  clear e1
  refine (fun h => h : _ → _) ?_
  intro S1 e1
  replace hE := E9_r hE e1
  replace hA := A9_r (b := 53) (i := 0) (x := 54) (by decide) (by decide) hA e1
  clear e1
  intro _ S1 e1
  replace hE := E9_n (c := 5) (z := 0) (by decide) hA e1 hE
  replace hA := A9_n (c := 5) (z := 0) hA e1
  clear e1
  intro I1 e1
  replace hB := B9_w (b := 57) (by decide) hB e1
  clear e1
  unfold w_X5_init_at57
  intro _ S1 e1
  replace hE := E9_n (c := 9) (z := 30) (by decide) hA e1 hE
  replace hA := A9_n (c := 9) (z := 30) hA e1
  clear e1
  intro I1 e1
  replace hB := B9_w (b := 58) (by decide) hB e1
  clear e1
  intro S1 e1
  replace hE := E9_r hE e1
  replace hA := A9_r (b := 57) (i := 0) (x := 58) (by decide) (by decide) hA e1
  clear e1
  intro _ S1 e1
  replace hE := E9_n (c := 11) (z := 10) (by decide) hA e1 hE
  replace hA := A9_n (c := 11) (z := 10) hA e1
  clear e1
  intro I1 e1
  replace hB := B9_w (b := 59) (by decide) hB e1
  clear e1
  intro S1 e1
  replace hE := E9_r hE e1
  replace hA := A9_r (b := 57) (i := 1) (x := 59) (by decide) (by decide) hA e1
  clear e1
  refine (fun h => h : _ → _) ?_
  intro S1 e1
  replace hE := E9_r hE e1
  replace hA := A9_r (b := 53) (i := 1) (x := 57) (by decide) (by decide) hA e1
  clear e1
  intro _ S1 e1
  replace hE := E9_n (c := 5) (z := 0) (by decide) hA e1 hE
  replace hA := A9_n (c := 5) (z := 0) hA e1
  clear e1
  intro I1 e1
  replace hB := B9_w (b := 60) (by decide) hB e1
  clear e1
  unfold w_X5_init_at60
  intro _ S1 e1
  replace hE := E9_n (c := 9) (z := 30) (by decide) hA e1 hE
  replace hA := A9_n (c := 9) (z := 30) hA e1
  clear e1
  intro I1 e1
  replace hB := B9_w (b := 61) (by decide) hB e1
  clear e1
  intro S1 e1
  replace hE := E9_r hE e1
  replace hA := A9_r (b := 60) (i := 0) (x := 61) (by decide) (by decide) hA e1
  clear e1
  intro _ S1 e1
  replace hE := E9_n (c := 11) (z := 10) (by decide) hA e1 hE
  replace hA := A9_n (c := 11) (z := 10) hA e1
  clear e1
  intro I1 e1
  replace hB := B9_w (b := 62) (by decide) hB e1
  clear e1
  intro S1 e1
  replace hE := E9_r hE e1
  replace hA := A9_r (b := 60) (i := 1) (x := 62) (by decide) (by decide) hA e1
  clear e1
  refine (fun h => h : _ → _) ?_
  intro S1 e1
  replace hE := E9_r hE e1
  replace hA := A9_r (b := 53) (i := 2) (x := 60) (by decide) (by decide) hA e1
  clear e1
  intro _ S1 e1
  replace hE := E9_n (c := 5) (z := 0) (by decide) hA e1 hE
  replace hA := A9_n (c := 5) (z := 0) hA e1
  clear e1
  intro I1 e1
  replace hB := B9_w (b := 63) (by decide) hB e1
  clear e1
  unfold w_X5_init_at63
  intro _ S1 e1
  replace hE := E9_n (c := 9) (z := 30) (by decide) hA e1 hE
  replace hA := A9_n (c := 9) (z := 30) hA e1
  clear e1
  intro I1 e1
  replace hB := B9_w (b := 64) (by decide) hB e1
  clear e1
  intro S1 e1
  replace hE := E9_r hE e1
  replace hA := A9_r (b := 63) (i := 0) (x := 64) (by decide) (by decide) hA e1
  clear e1
  intro _ S1 e1
  replace hE := E9_n (c := 11) (z := 10) (by decide) hA e1 hE
  replace hA := A9_n (c := 11) (z := 10) hA e1
  clear e1
  intro I1 e1
  replace hB := B9_w (b := 65) (by decide) hB e1
  clear e1
  intro S1 e1
  replace hE := E9_r hE e1
  replace hA := A9_r (b := 63) (i := 1) (x := 65) (by decide) (by decide) hA e1
  clear e1
  refine (fun h => h : _ → _) ?_
  intro S1 e1
  replace hE := E9_r hE e1
  replace hA := A9_r (b := 53) (i := 3) (x := 63) (by decide) (by decide) hA e1
  clear e1
  intro I1 e1
  replace hB := B9_u (b := 52) (i := 2) (v := 1) hB e1
  clear e1
  refine (fun h => h : _ → _) ?_
  intro S1 e1
  replace hE := E9_r hE e1
  replace hA := A9_r (b := 51) (i := 0) (x := 52) (by decide) (by decide) hA e1
  clear e1
  intro _ S1 e1
  replace hE := E9_n (c := 2) (z := 0) (by decide) hA e1 hE
  replace hA := A9_n (c := 2) (z := 0) hA e1
  clear e1
  intro I1 e1
  replace hB := B9_w (b := 66) (by decide) hB e1
  clear e1
  unfold w_X2_init_at66
  intro S1 e1
  replace hE := E9_r hE e1
  replace hA := A9_r (b := 66) (i := 0) (x := 52) (by decide) (by decide) hA e1
  clear e1
  intro _ S1 e1
  replace hE := E9_n (c := 9) (z := 24) (by decide) hA e1 hE
  replace hA := A9_n (c := 9) (z := 24) hA e1
  clear e1
  intro I1 e1
  replace hB := B9_w (b := 67) (by decide) hB e1
  clear e1
  intro S1 e1
  replace hE := E9_r hE e1
  replace hA := A9_r (b := 66) (i := 1) (x := 67) (by decide) (by decide) hA e1
  clear e1
  intro _ S1 e1
  replace hE := E9_n (c := 9) (z := 24) (by decide) hA e1 hE
  replace hA := A9_n (c := 9) (z := 24) hA e1
  clear e1
  intro I1 e1
  replace hB := B9_w (b := 68) (by decide) hB e1
  clear e1
  intro S1 e1
  replace hE := E9_r hE e1
  replace hA := A9_r (b := 66) (i := 2) (x := 68) (by decide) (by decide) hA e1
  clear e1
  intro _ S1 e1
  replace hE := E9_n (c := 9) (z := 24) (by decide) hA e1 hE
  replace hA := A9_n (c := 9) (z := 24) hA e1
  clear e1
  intro I1 e1
  replace hB := B9_w (b := 69) (by decide) hB e1
  clear e1
  intro S1 e1
  replace hE := E9_r hE e1
  replace hA := A9_r (b := 66) (i := 3) (x := 69) (by decide) (by decide) hA e1
  clear e1
  intro _ S1 e1
  replace hE := E9_n (c := 9) (z := 24) (by decide) hA e1 hE
  replace hA := A9_n (c := 9) (z := 24) hA e1
  clear e1
  intro I1 e1
  replace hB := B9_w (b := 70) (by decide) hB e1
  clear e1
  intro S1 e1
  replace hE := E9_r hE e1
  replace hA := A9_r (b := 66) (i := 4) (x := 70) (by decide) (by decide) hA e1
  clear e1
  intro _ S1 e1
  replace hE := E9_n (c := 9) (z := 24) (by decide) hA e1 hE
  replace hA := A9_n (c := 9) (z := 24) hA e1
  clear e1
  intro I1 e1
  replace hB := B9_w (b := 71) (by decide) hB e1
  clear e1
  intro S1 e1
  replace hE := E9_r hE e1
  replace hA := A9_r (b := 66) (i := 5) (x := 71) (by decide) (by decide) hA e1
  clear e1
  intro _ S1 e1
  replace hE := E9_n (c := 9) (z := 24) (by decide) hA e1 hE
  replace hA := A9_n (c := 9) (z := 24) hA e1
  clear e1
  intro I1 e1
  replace hB := B9_w (b := 72) (by decide) hB e1
  clear e1
  intro S1 e1
  replace hE := E9_r hE e1
  replace hA := A9_r (b := 66) (i := 6) (x := 72) (by decide) (by decide) hA e1
  clear e1
  intro _ S1 e1
  replace hE := E9_n (c := 9) (z := 24) (by decide) hA e1 hE
  replace hA := A9_n (c := 9) (z := 24) hA e1
  clear e1
  intro I1 e1
  replace hB := B9_w (b := 73) (by decide) hB e1
  clear e1
  intro S1 e1
  replace hE := E9_r hE e1
  replace hA := A9_r (b := 66) (i := 7) (x := 73) (by decide) (by decide) hA e1
  clear e1
  refine (fun h => h : _ → _) ?_
  intro S1 e1
  replace hE := E9_r hE e1
  replace hA := A9_r (b := 51) (i := 1) (x := 66) (by decide) (by decide) hA e1
  clear e1
  intro _ S1 e1
  replace hE := E9_n (c := 0) (z := 0) (by decide) hA e1 hE
  replace hA := A9_n (c := 0) (z := 0) hA e1
  clear e1
  intro I1 e1
  replace hB := B9_w (b := 74) (by decide) hB e1
  clear e1
  unfold w_X0_init_at74
  intro S1 e1
  replace hE := E9_r hE e1
  replace hA := A9_r (b := 74) (i := 0) (x := 52) (by decide) (by decide) hA e1
  clear e1
  intro S1 e1
  replace hE := E9_r hE e1
  replace hA := A9_r (b := 74) (i := 1) (x := 66) (by decide) (by decide) hA e1
  clear e1
  intro _ S1 e1
  replace hE := E9_n (c := 9) (z := 28800) (by decide) hA e1 hE
  replace hA := A9_n (c := 9) (z := 28800) hA e1
  clear e1
  intro I1 e1
  replace hB := B9_w (b := 75) (by decide) hB e1
  clear e1
  intro S1 e1
  replace hE := E9_r hE e1
  replace hA := A9_r (b := 74) (i := 2) (x := 75) (by decide) (by decide) hA e1
  clear e1
  intro _ S1 e1
  replace hE := E9_n (c := 9) (z := 24) (by decide) hA e1 hE
  replace hA := A9_n (c := 9) (z := 24) hA e1
  clear e1
  intro I1 e1
  replace hB := B9_w (b := 76) (by decide) hB e1
  clear e1
  intro S1 e1
  replace hE := E9_r hE e1
  replace hA := A9_r (b := 74) (i := 3) (x := 76) (by decide) (by decide) hA e1
  clear e1
  intro _ S1 e1
  replace hE := E9_n (c := 9) (z := 24) (by decide) hA e1 hE
  replace hA := A9_n (c := 9) (z := 24) hA e1
  clear e1
  intro I1 e1
  replace hB := B9_w (b := 77) (by decide) hB e1
  clear e1
  intro S1 e1
  replace hE := E9_r hE e1
  replace hA := A9_r (b := 74) (i := 4) (x := 77) (by decide) (by decide) hA e1
  clear e1
  intro _ S1 e1
  replace hE := E9_n (c := 9) (z := 24) (by decide) hA e1 hE
  replace hA := A9_n (c := 9) (z := 24) hA e1
  clear e1
  intro I1 e1
  replace hB := B9_w (b := 78) (by decide) hB e1
  clear e1
  intro S1 e1
  replace hE := E9_r hE e1
  replace hA := A9_r (b := 74) (i := 5) (x := 78) (by decide) (by decide) hA e1
  clear e1
  intro _ S1 e1
  replace hE := E9_n (c := 11) (z := 24) (by decide) hA e1 hE
  replace hA := A9_n (c := 11) (z := 24) hA e1
  clear e1
  intro I1 e1
  replace hB := B9_w (b := 79) (by decide) hB e1
  clear e1
  intro S1 e1
  replace hE := E9_r hE e1
  replace hA := A9_r (b := 74) (i := 6) (x := 79) (by decide) (by decide) hA e1
  clear e1
  intro _ S1 e1
  replace hE := E9_n (c := 11) (z := 200) (by decide) hA e1 hE
  replace hA := A9_n (c := 11) (z := 200) hA e1
  clear e1
  intro I1 e1
  replace hB := B9_w (b := 80) (by decide) hB e1
  clear e1
  intro S1 e1
  replace hE := E9_r hE e1
  replace hA := A9_r (b := 74) (i := 7) (x := 80) (by decide) (by decide) hA e1
  clear e1
  refine (fun h => h : _ → _) ?_
  intro S1 e1
  replace hE := E9_r hE e1
  replace hA := A9_r (b := 51) (i := 2) (x := 74) (by decide) (by decide) hA e1
  clear e1
  intro _ S1 e1
  replace hE := E9_n (c := 3) (z := 0) (by decide) hA e1 hE
  replace hA := A9_n (c := 3) (z := 0) hA e1
  clear e1
  intro I1 e1
  replace hB := B9_w (b := 81) (by decide) hB e1
  clear e1
  unfold w_X3_init_at81
  intro S1 e1
  replace hE := E9_r hE e1
  replace hA := A9_r (b := 81) (i := 0) (x := 66) (by decide) (by decide) hA e1
  clear e1
  intro _ S1 e1
  replace hE := E9_n (c := 9) (z := 600) (by decide) hA e1 hE
  replace hA := A9_n (c := 9) (z := 600) hA e1
  clear e1
  intro I1 e1
  replace hB := B9_w (b := 82) (by decide) hB e1
  clear e1
  intro S1 e1
  replace hE := E9_r hE e1
  replace hA := A9_r (b := 81) (i := 1) (x := 82) (by decide) (by decide) hA e1
  clear e1
  intro _ S1 e1
  replace hE := E9_n (c := 9) (z := 25) (by decide) hA e1 hE
  replace hA := A9_n (c := 9) (z := 25) hA e1
  clear e1
  intro I1 e1
  replace hB := B9_w (b := 83) (by decide) hB e1
  clear e1
  intro S1 e1
  replace hE := E9_r hE e1
  replace hA := A9_r (b := 81) (i := 2) (x := 83) (by decide) (by decide) hA e1
  clear e1
  intro _ S1 e1
  replace hE := E9_n (c := 9) (z := 256) (by decide) hA e1 hE
  replace hA := A9_n (c := 9) (z := 256) hA e1
  clear e1
  intro I1 e1
  replace hB := B9_w (b := 84) (by decide) hB e1
  clear e1
  intro S1 e1
  replace hE := E9_r hE e1
  replace hA := A9_r (b := 81) (i := 3) (x := 84) (by decide) (by decide) hA e1
  clear e1
  intro _ S1 e1
  replace hE := E9_n (c := 9) (z := 256) (by decide) hA e1 hE
  replace hA := A9_n (c := 9) (z := 256) hA e1
  clear e1
  intro I1 e1
  replace hB := B9_w (b := 85) (by decide) hB e1
  clear e1
  intro S1 e1
  replace hE := E9_r hE e1
  replace hA := A9_r (b := 81) (i := 4) (x := 85) (by decide) (by decide) hA e1
  clear e1
  intro _ S1 e1
  replace hE := E9_n (c := 9) (z := 6144) (by decide) hA e1 hE
  replace hA := A9_n (c := 9) (z := 6144) hA e1
  clear e1
  intro I1 e1
  replace hB := B9_w (b := 86) (by decide) hB e1
  clear e1
  intro S1 e1
  replace hE := E9_r hE e1
  replace hA := A9_r (b := 81) (i := 5) (x := 86) (by decide) (by decide) hA e1
  clear e1
  intro _ S1 e1
  replace hE := E9_n (c := 9) (z := 256) (by decide) hA e1 hE
  replace hA := A9_n (c := 9) (z := 256) hA e1
  clear e1
  intro I1 e1
  replace hB := B9_w (b := 87) (by decide) hB e1
  clear e1
  intro S1 e1
  replace hE := E9_r hE e1
  replace hA := A9_r (b := 81) (i := 6) (x := 87) (by decide) (by decide) hA e1
  clear e1
  refine (fun h => h : _ → _) ?_
  intro S1 e1
  replace hE := E9_r hE e1
  replace hA := A9_r (b := 51) (i := 3) (x := 81) (by decide) (by decide) hA e1
  clear e1
  intro _ S1 e1
  replace hE := E9_n (c := 1) (z := 0) (by decide) hA e1 hE
  replace hA := A9_n (c := 1) (z := 0) hA e1
  clear e1
  intro I1 e1
  replace hB := B9_w (b := 88) (by decide) hB e1
  clear e1
  unfold w_X1_init_at88
  intro S1 e1
  replace hE := E9_r hE e1
  replace hA := A9_r (b := 88) (i := 0) (x := 52) (by decide) (by decide) hA e1
  clear e1
  intro _ S1 e1
  replace hE := E9_n (c := 9) (z := 6) (by decide) hA e1 hE
  replace hA := A9_n (c := 9) (z := 6) hA e1
  clear e1
  intro I1 e1
  replace hB := B9_w (b := 89) (by decide) hB e1
  clear e1
  intro S1 e1
  replace hE := E9_r hE e1
  replace hA := A9_r (b := 88) (i := 1) (x := 89) (by decide) (by decide) hA e1
  clear e1
  intro _ S1 e1
  replace hE := E9_n (c := 9) (z := 6) (by decide) hA e1 hE
  replace hA := A9_n (c := 9) (z := 6) hA e1
  clear e1
  intro I1 e1
  replace hB := B9_w (b := 90) (by decide) hB e1
  clear e1
  intro S1 e1
  replace hE := E9_r hE e1
  replace hA := A9_r (b := 88) (i := 2) (x := 90) (by decide) (by decide) hA e1
  clear e1
  intro _ S1 e1
  replace hE := E9_n (c := 9) (z := 6) (by decide) hA e1 hE
  replace hA := A9_n (c := 9) (z := 6) hA e1
  clear e1
  intro I1 e1
  replace hB := B9_w (b := 91) (by decide) hB e1
  clear e1
  intro S1 e1
  replace hE := E9_r hE e1
  replace hA := A9_r (b := 88) (i := 3) (x := 91) (by decide) (by decide) hA e1
  clear e1
  intro _ S1 e1
  replace hE := E9_n (c := 9) (z := 6) (by decide) hA e1 hE
  replace hA := A9_n (c := 9) (z := 6) hA e1
  clear e1
  intro I1 e1
  replace hB := B9_w (b := 92) (by decide) hB e1
  clear e1
  intro S1 e1
  replace hE := E9_r hE e1
  replace hA := A9_r (b := 88) (i := 4) (x := 92) (by decide) (by decide) hA e1
  clear e1
  intro _ S1 e1
  replace hE := E9_n (c := 9) (z := 4) (by decide) hA e1 hE
  replace hA := A9_n (c := 9) (z := 4) hA e1
  clear e1
  intro I1 e1
  replace hB := B9_w (b := 93) (by decide) hB e1
  clear e1
  intro S1 e1
  replace hE := E9_r hE e1
  replace hA := A9_r (b := 88) (i := 5) (x := 93) (by decide) (by decide) hA e1
  clear e1
  intro _ S1 e1
  replace hE := E9_n (c := 9) (z := 6) (by decide) hA e1 hE
  replace hA := A9_n (c := 9) (z := 6) hA e1
  clear e1
  intro I1 e1
  replace hB := B9_w (b := 94) (by decide) hB e1
  clear e1
  intro S1 e1
  replace hE := E9_r hE e1
  replace hA := A9_r (b := 88) (i := 6) (x := 94) (by decide) (by decide) hA e1
  clear e1
  intro _ S1 e1
  replace hE := E9_n (c := 9) (z := 16) (by decide) hA e1 hE
  replace hA := A9_n (c := 9) (z := 16) hA e1
  clear e1
  intro I1 e1
  replace hB := B9_w (b := 95) (by decide) hB e1
  clear e1
  intro S1 e1
  replace hE := E9_r hE e1
  replace hA := A9_r (b := 88) (i := 7) (x := 95) (by decide) (by decide) hA e1
  clear e1
  intro _ S1 e1
  replace hE := E9_n (c := 9) (z := 16) (by decide) hA e1 hE
  replace hA := A9_n (c := 9) (z := 16) hA e1
  clear e1
  intro I1 e1
  replace hB := B9_w (b := 96) (by decide) hB e1
  clear e1
  intro S1 e1
  replace hE := E9_r hE e1
  replace hA := A9_r (b := 88) (i := 8) (x := 96) (by decide) (by decide) hA e1
  clear e1
  refine (fun h => h : _ → _) ?_
  intro S1 e1
  replace hE := E9_r hE e1
  replace hA := A9_r (b := 51) (i := 4) (x := 88) (by decide) (by decide) hA e1
  clear e1
  intro _ S1 e1
  replace hE := E9_n (c := 6) (z := 0) (by decide) hA e1 hE
  replace hA := A9_n (c := 6) (z := 0) hA e1
  clear e1
  intro I1 e1
  replace hB := B9_w (b := 97) (by decide) hB e1
  clear e1
  unfold w_X6_init_at97
  intro S1 e1
  replace hE := E9_r hE e1
  replace hA := A9_r (b := 97) (i := 0) (x := 52) (by decide) (by decide) hA e1
  clear e1
  intro _ S1 e1
  replace hE := E9_n (c := 9) (z := 4) (by decide) hA e1 hE
  replace hA := A9_n (c := 9) (z := 4) hA e1
  clear e1
  intro I1 e1
  replace hB := B9_w (b := 98) (by decide) hB e1
  clear e1
  intro S1 e1
  replace hE := E9_r hE e1
  replace hA := A9_r (b := 97) (i := 1) (x := 98) (by decide) (by decide) hA e1
  clear e1
  intro _ S1 e1
  replace hE := E9_n (c := 9) (z := 4) (by decide) hA e1 hE
  replace hA := A9_n (c := 9) (z := 4) hA e1
  clear e1
  intro I1 e1
  replace hB := B9_w (b := 99) (by decide) hB e1
  clear e1
  intro S1 e1
  replace hE := E9_r hE e1
  replace hA := A9_r (b := 97) (i := 2) (x := 99) (by decide) (by decide) hA e1
  clear e1
  intro _ S1 e1
  replace hE := E9_n (c := 9) (z := 4) (by decide) hA e1 hE
  replace hA := A9_n (c := 9) (z := 4) hA e1
  clear e1
  intro I1 e1
  replace hB := B9_w (b := 100) (by decide) hB e1
  clear e1
  intro S1 e1
  replace hE := E9_r hE e1
  replace hA := A9_r (b := 97) (i := 3) (x := 100) (by decide) (by decide) hA e1
  clear e1
  intro _ S1 e1
  replace hE := E9_n (c := 9) (z := 4) (by decide) hA e1 hE
  replace hA := A9_n (c := 9) (z := 4) hA e1
  clear e1
  intro I1 e1
  replace hB := B9_w (b := 101) (by decide) hB e1
  clear e1
  intro S1 e1
  replace hE := E9_r hE e1
  replace hA := A9_r (b := 97) (i := 4) (x := 101) (by decide) (by decide) hA e1
  clear e1
  refine (fun h => h : _ → _) ?_
  intro S1 e1
  replace hE := E9_r hE e1
  replace hA := A9_r (b := 51) (i := 5) (x := 97) (by decide) (by decide) hA e1
  clear e1
  intro I1 e1
  replace hB := B9_u (b := 51) (i := 6) (v := 100000) hB e1
  clear e1
  refine (fun h => h : _ → _) ?_
  exact h _ _ J hA hB hE
end ST
