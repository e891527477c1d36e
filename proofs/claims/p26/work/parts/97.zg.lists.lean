/-! pure: the rows of a node, without any bound; lists -/
theorem fm_fil {α β : Type} (g : α → List β) (p : β → Bool) : ∀ A : List α, (A.flatMap g).filter p = A.flatMap (fun X => (g X).filter p)
  | [] => rfl
  | x :: xs => by rw [List.flatMap_cons, List.filter_append, fm_fil g p xs, List.flatMap_cons]
theorem fil_fm {α β : Type} (g : α → List β) (p : α → Bool) : ∀ A : List α, (A.filter p).flatMap g = A.flatMap (fun X => if p X = true then g X else [])
  | [] => rfl
  | x :: xs => by
    rw [List.flatMap_cons, List.filter_cons]
    by_cases h : p x = true
    · rw [if_pos h, if_pos h, List.flatMap_cons, fil_fm g p xs]
    · rw [if_neg h, if_neg h, fil_fm g p xs, List.nil_append]
theorem fm_cg {α β : Type} {g g2 : α → List β} : ∀ {A : List α}, (∀ X, X ∈ A → g X = g2 X) → A.flatMap g = A.flatMap g2
  | [], _ => rfl
  | x :: xs, h => by rw [List.flatMap_cons, List.flatMap_cons, h x List.mem_cons_self, fm_cg (fun X hX => h X (List.mem_cons_of_mem _ hX))]
theorem ff_c {α : Type} (p q : α → Bool) (A : List α) : (A.filter p).filter q = (A.filter q).filter p := by
  rw [List.filter_filter, List.filter_filter]
  exact List.filter_congr (fun x _ => Bool.and_comm _ _)
theorem fil_t {α : Type} {p : α → Bool} {A : List α} (h : ∀ x, x ∈ A → p x = true) : A.filter p = A := List.filter_eq_self.mpr h
theorem take_s {L : List (List Int32)} {i : Nat} (h : i < L.length) : L.take (i + 1) = L.take i ++ [L.getD i []] := getD_take h
theorem flF_eq (k c : Nat) (e : Int32) (A : List (List Int32)) : ∀ i, i ≤ A.length → flF k c e A i = (A.take i).filter (fun X => isT k (X.getD c UK) e)
  | 0, _ => by rw [flF, List.take_zero]; rfl
  | i + 1, h => by
    rw [flF, take_s (by omega), List.filter_append, flF_eq k c e A i (by omega)]
    cases hp : isT k ((A.getD i []).getD c UK) e
    · rw [if_neg (by decide), List.filter_cons, hp, if_neg (by decide), List.filter_nil, List.append_nil]
    · rw [if_pos rfl, List.filter_cons, hp, if_pos rfl, List.filter_nil]
theorem flT_eq (k c d : Nat) (A B : List (List Int32)) : ∀ i, i ≤ A.length → flT k c d A B i = (A.take i).filter (fun X => stB k d B (X.getD c UK))
  | 0, _ => by rw [flT, List.take_zero]; rfl
  | i + 1, h => by
    rw [flT, take_s (by omega), List.filter_append, flT_eq k c d A B i (by omega)]
    cases hp : stB k d B ((A.getD i []).getD c UK)
    · rw [if_neg (by decide), List.filter_cons, hp, if_neg (by decide), List.filter_nil, List.append_nil]
    · rw [if_pos rfl, List.filter_cons, hp, if_pos rfl, List.filter_nil]
theorem flJ_eq (k c d wb : Nat) (A B : List (List Int32)) : ∀ i, i ≤ A.length → flJ k c d wb A B i = (A.take i).flatMap (prR k c d wb B)
  | 0, _ => by rw [flJ, List.take_zero]; rfl
  | i + 1, h => by
    rw [flJ, take_s (by omega), List.flatMap_append, flJ_eq k c d wb A B i (by omega), List.flatMap_cons, List.flatMap_nil, List.append_nil]
theorem prN_eq (B : List (List Int32)) (d : Nat) (X : List Int32) (x : Int32) : ∀ j, j ≤ B.length → prN B d X x j = ((B.take j).filter (fun Y => decide (Y.getD d UK = x))).map (fun Y => X ++ Y)
  | 0, _ => by rw [prN, List.take_zero]; rfl
  | j + 1, h => by
    rw [prN, take_s (by omega), List.filter_append, List.map_append, prN_eq B d X x j (by omega)]
    by_cases hp : (B.getD j []).getD d UK = x
    · rw [if_pos hp, List.filter_cons, if_pos (decide_eq_true hp), List.filter_nil, List.map_cons, List.map_nil]
    · rw [if_neg hp, List.filter_cons, if_neg (by rw [decide_eq_false hp]; decide), List.filter_nil, List.map_nil, List.append_nil]
/-- the rows of a node, without any bound -/
def tv (T : QT) (P : List Nd) : Nat → Nat → List (List Int32)
  | 0, _ => []
  | f + 1, n => fil T (nd P n) (nd P ((nd P n).2.2.1 - 1)).2.2.2.2.2.2 (if (nd P n).1 = 0 then [] else tv T P f (nd P n).2.1) (if (nd P n).2.2.1 = 0 then [] else tv T P f ((nd P n).2.2.1 - 1))
theorem ev_tv {T : QT} {P : List Nd} : ∀ (f n : Nat) (L : List (List Int32)), ev T P f n = some L → tv T P f n = L
  | 0, n, L, h => by cases h
  | f + 1, n, L, h => by
    rw [ev] at h
    cases eA : (if (nd P n).1 = 0 then some [] else ev T P f (nd P n).2.1) with
    | none => rw [eA] at h; cases h
    | some A =>
      cases eB : (if (nd P n).2.2.1 = 0 then some [] else ev T P f ((nd P n).2.2.1 - 1)) with
      | none => rw [eA, eB] at h; cases h
      | some B =>
        rw [eA, eB] at h
        have h2 : (if (fil T (nd P n) (nd P ((nd P n).2.2.1 - 1)).2.2.2.2.2.2 A B).length ≤ 200 then some (fil T (nd P n) (nd P ((nd P n).2.2.1 - 1)).2.2.2.2.2.2 A B) else none) = some L := h
        split at h2
        · cases h2
          have a1 : (if (nd P n).1 = 0 then [] else tv T P f (nd P n).2.1) = A := by
            by_cases e : (nd P n).1 = 0
            · rw [if_pos e] at eA ⊢
              cases eA; rfl
            · rw [if_neg e] at eA ⊢
              exact ev_tv f _ _ eA
          have b1 : (if (nd P n).2.2.1 = 0 then [] else tv T P f ((nd P n).2.2.1 - 1)) = B := by
            by_cases e : (nd P n).2.2.1 = 0
            · rw [if_pos e] at eB ⊢
              cases eB; rfl
            · rw [if_neg e] at eB ⊢
              exact ev_tv f _ _ eB
          rw [tv, a1, b1]
        · cases h2
theorem tv_f {T : QT} {P : List Nd} (hw : Pw T P) : ∀ (f g n : Nat), n < P.length → n < f → n < g → tv T P f n = tv T P g n
  | 0, _, n, _, h, _ => absurd h (Nat.not_lt_zero n)
  | _ + 1, 0, n, _, _, h => absurd h (Nat.not_lt_zero n)
  | f + 1, g + 1, n, hn, hf, hg => by
    obtain ⟨ha, hb⟩ := (hw.2 n hn).ab
    have e1 : (if (nd P n).1 = 0 then [] else tv T P f (nd P n).2.1) = (if (nd P n).1 = 0 then [] else tv T P g (nd P n).2.1) := by
      by_cases e : (nd P n).1 = 0
      · rw [if_pos e, if_pos e]
      · rw [if_neg e, if_neg e]
        have := ha e
        exact tv_f hw f g _ (by omega) (by omega) (by omega)
    have e2 : (if (nd P n).2.2.1 = 0 then [] else tv T P f ((nd P n).2.2.1 - 1)) = (if (nd P n).2.2.1 = 0 then [] else tv T P g ((nd P n).2.2.1 - 1)) := by
      by_cases e : (nd P n).2.2.1 = 0
      · rw [if_pos e, if_pos e]
      · rw [if_neg e, if_neg e]
        have := hb e
        exact tv_f hw f g _ (by omega) (by omega) (by omega)
    rw [tv, tv, e1, e2]
def TV (T : QT) (P : List Nd) (n : Nat) : List (List Int32) := tv T P (n + 1) n
theorem TV_eq {T : QT} {P : List Nd} (hw : Pw T P) {n : Nat} (hn : n < P.length) : TV T P n = fil T (nd P n) (nd P ((nd P n).2.2.1 - 1)).2.2.2.2.2.2 (if (nd P n).1 = 0 then [] else TV T P (nd P n).2.1) (if (nd P n).2.2.1 = 0 then [] else TV T P ((nd P n).2.2.1 - 1)) := by
  obtain ⟨ha, hb⟩ := (hw.2 n hn).ab
  have e1 : (if (nd P n).1 = 0 then [] else tv T P n (nd P n).2.1) = (if (nd P n).1 = 0 then [] else TV T P (nd P n).2.1) := by
    by_cases e : (nd P n).1 = 0
    · rw [if_pos e, if_pos e]
    · rw [if_neg e, if_neg e]
      have := ha e
      exact tv_f hw _ _ _ (by omega) (by omega) (by omega)
  have e2 : (if (nd P n).2.2.1 = 0 then [] else tv T P n ((nd P n).2.2.1 - 1)) = (if (nd P n).2.2.1 = 0 then [] else TV T P ((nd P n).2.2.1 - 1)) := by
    by_cases e : (nd P n).2.2.1 = 0
    · rw [if_pos e, if_pos e]
    · rw [if_neg e, if_neg e]
      have := hb e
      exact tv_f hw _ _ _ (by omega) (by omega) (by omega)
  show tv T P (n + 1) n = _
  rw [tv, e1, e2]
theorem tv_x {T : QT} {P P2 : List Nd} (hw : Pw T P) (hx : XP P P2) : ∀ (f n : Nat), n < P.length → tv T P2 f n = tv T P f n
  | 0, n, _ => rfl
  | f + 1, n, hn => by
    obtain ⟨ha, hb⟩ := (hw.2 n hn).ab
    have eB : (nd P n).2.2.1 ≠ 0 → nd P2 ((nd P n).2.2.1 - 1) = nd P ((nd P n).2.2.1 - 1) := fun e => hx.g (by have := hb e; omega)
    have eB0 : nd P2 ((nd P n).2.2.1 - 1) = nd P ((nd P n).2.2.1 - 1) := by
      by_cases e : (nd P n).2.2.1 = 0
      · exact hx.g (by omega)
      · exact eB e
    have e1 : (if (nd P n).1 = 0 then [] else tv T P2 f (nd P n).2.1) = (if (nd P n).1 = 0 then [] else tv T P f (nd P n).2.1) := by
      by_cases e : (nd P n).1 = 0
      · rw [if_pos e, if_pos e]
      · rw [if_neg e, if_neg e]
        have := ha e
        exact tv_x hw hx f _ (by omega)
    have e2 : (if (nd P n).2.2.1 = 0 then [] else tv T P2 f ((nd P n).2.2.1 - 1)) = (if (nd P n).2.2.1 = 0 then [] else tv T P f ((nd P n).2.2.1 - 1)) := by
      by_cases e : (nd P n).2.2.1 = 0
      · rw [if_pos e, if_pos e]
      · rw [if_neg e, if_neg e]
        have := hb e
        exact tv_x hw hx f _ (by omega)
    rw [tv, tv, hx.g hn, eB0, e1, e2]
theorem TV_x {T : QT} {P P2 : List Nd} (hw : Pw T P) (hx : XP P P2) {n : Nat} (hn : n < P.length) : TV T P2 n = TV T P n := tv_x hw hx _ n hn
/-- each row is as wide as the node -/
theorem kp_sub {A : List (List Int32)} {G : Nat → Bool} {tk : Bool} : ∀ i, i ≤ A.length → ∀ X, X ∈ kp A G tk i → X ∈ A
  | 0, _, X, h => by rw [kp] at h; cases h
  | i + 1, hi, X, h => by
    rw [kp] at h
    split at h
    · rcases List.mem_append.mp h with h | h
      · exact kp_sub i (by omega) X h
      · rw [List.mem_singleton] at h
        rw [h, List.getD_eq_getElem?_getD, List.getElem?_eq_getElem (show i < A.length by omega)]
        exact List.getElem_mem _
    · exact kp_sub i (by omega) X h
theorem ddN_sub {R A : List (List Int32)} : ∀ i, i ≤ A.length → ∀ X, X ∈ ddN R A i → X ∈ R ∨ X ∈ A
  | 0, _, X, h => by rw [ddN] at h; exact Or.inl h
  | i + 1, hi, X, h => by
    rw [ddN] at h
    split at h
    · exact ddN_sub i (by omega) X h
    · rcases List.mem_append.mp h with h | h
      · exact ddN_sub i (by omega) X h
      · rw [List.mem_singleton] at h
        refine Or.inr ?_
        rw [h, List.getD_eq_getElem?_getD, List.getElem?_eq_getElem (show i < A.length by omega)]
        exact List.getElem_mem _
theorem gpN_w {k c d : Nat} {A : List (List Int32)} : ∀ i, ∀ X, X ∈ gpN k c d A i → X.length = 2
  | 0, X, h => by rw [gpN] at h; cases h
  | i + 1, X, h => by
    rw [gpN] at h
    split at h
    · first
        | exact gpN_w i X h
        | (rcases List.mem_append.mp h with h | h
           · exact gpN_w i X h
           · rw [List.mem_singleton] at h; rw [h]; rfl)
    · first
        | exact gpN_w i X h
        | (rcases List.mem_append.mp h with h | h
           · exact gpN_w i X h
           · rw [List.mem_singleton] at h; rw [h]; rfl)
theorem flS_w {T : QT} {a : Nat} : ∀ i, ∀ X, X ∈ flS T a i → X.length = T.2.1 a
  | 0, X, h => by rw [flS] at h; cases h
  | i + 1, X, h => by
    rw [flS] at h
    rcases List.mem_append.mp h with h | h
    · exact flS_w i X h
    · rw [List.mem_singleton] at h
      rw [h]
      unfold rowT
      rw [List.length_map, List.length_range]
theorem prR_m {k c d wb : Nat} {B : List (List Int32)} {X R : List Int32} (h : R ∈ prR k c d wb B X) : R = X ++ uks wb ∨ ∃ Y, Y ∈ B ∧ R = X ++ Y := by
  have hN : ∀ {x : Int32}, R ∈ prN B d X x B.length → ∃ Y, Y ∈ B ∧ R = X ++ Y := by
    intro x h
    rw [prN_eq B d X x B.length (Nat.le_refl _), List.take_length] at h
    obtain ⟨Y, hY, e⟩ := List.mem_map.mp h
    exact ⟨Y, (List.mem_filter.mp hY).1, e.symm⟩
  unfold prR at h
  by_cases u : X.getD c UK = UK
  · rw [if_pos u] at h
    by_cases e : ([] : List (List Int32)) = [] ∧ k ≠ 0
    · rw [if_pos e, List.mem_singleton] at h
      exact Or.inl h
    · rw [if_neg e] at h
      cases h
  · rw [if_neg u] at h
    by_cases e : prN B d X (X.getD c UK) B.length = [] ∧ k ≠ 0
    · rw [if_pos e, List.mem_singleton] at h
      exact Or.inl h
    · rw [if_neg e] at h
      exact Or.inr (hN h)
theorem TV_w {T : QT} {P : List Nd} (hw : Pw T P) : ∀ (f n : Nat), n < P.length → ∀ X, X ∈ tv T P f n → X.length = (nd P n).2.2.2.2.2.2
  | 0, n, _, X, h => by rw [tv] at h; cases h
  | f + 1, n, hn, X, h => by
    have hW := hw.2 n hn
    obtain ⟨ha, hb⟩ := hW.ab
    obtain ⟨hB, hwd, c0, c1, c2, c3, c4, c5⟩ := hW
    have hA : (nd P n).1 ≠ 0 → ∀ X, X ∈ (if (nd P n).1 = 0 then [] else tv T P f (nd P n).2.1) → X.length = (nd P (nd P n).2.1).2.2.2.2.2.2 := by
      intro e X hX
      rw [if_neg e] at hX
      exact TV_w hw f _ (by have := ha e; omega) X hX
    have hBB : (nd P n).2.2.1 ≠ 0 → ∀ X, X ∈ (if (nd P n).2.2.1 = 0 then [] else tv T P f ((nd P n).2.2.1 - 1)) → X.length = (nd P ((nd P n).2.2.1 - 1)).2.2.2.2.2.2 := by
      intro e X hX
      rw [if_neg e] at hX
      exact TV_w hw f _ (by have := hb e; omega) X hX
    rw [tv] at h
    generalize (if (nd P n).1 = 0 then [] else tv T P f (nd P n).2.1) = A at h hA
    generalize (if (nd P n).2.2.1 = 0 then [] else tv T P f ((nd P n).2.2.1 - 1)) = B at h hBB
    rw [hwd]
    unfold fil at h
    unfold wd
    by_cases e0 : (nd P n).1 = 0
    · rw [if_pos e0] at h ⊢
      exact flS_w _ X h
    rw [if_neg e0] at h ⊢
    by_cases e1 : (nd P n).1 = 1
    · rw [if_pos e1, flF_eq _ _ _ _ _ (Nat.le_refl _), List.take_length] at h
      rw [if_neg (by omega), if_neg (by omega)]
      exact hA e0 X (List.mem_filter.mp h).1
    rw [if_neg e1] at h
    by_cases e2 : (nd P n).1 = 2
    · rw [if_pos e2] at h
      rw [if_neg (by omega)]
      by_cases ek : (nd P n).2.2.2.1 < 2
      · rw [if_pos ek, flJ_eq _ _ _ _ _ _ _ (Nat.le_refl _), List.take_length] at h
        rw [if_pos ⟨e2, ek⟩]
        obtain ⟨Y, hY, hR⟩ := List.mem_flatMap.mp h
        rcases prR_m hR with e | ⟨Y2, hY2, e⟩
        · rw [e, List.length_append, hA e0 Y hY]
          unfold uks
          rw [List.length_map, List.length_range]
        · rw [e, List.length_append, hA e0 Y hY, hBB (c3 e2).1 Y2 hY2]
      · rw [if_neg ek, flT_eq _ _ _ _ _ _ (Nat.le_refl _), List.take_length] at h
        rw [if_neg (fun z => ek z.2)]
        exact hA e0 X (List.mem_filter.mp h).1
    rw [if_neg e2] at h
    by_cases e3 : (nd P n).1 = 3
    · rw [if_pos e3] at h ⊢
      exact gpN_w _ X h
    rw [if_neg e3] at h ⊢
    rw [if_neg (fun z => e2 z.1)]
    have e4 : (nd P n).1 = 4 := by have := hB.1; omega
    have ew := (c5 e4).2.2.2.2.2
    by_cases k0 : (nd P n).2.2.2.1 = 0
    · rw [if_pos k0] at h
      rcases List.mem_append.mp h with h | h
      · exact hA e0 X h
      · rw [hBB (c5 e4).1 X h, ew]
    rw [if_neg k0] at h
    by_cases k3 : (nd P n).2.2.2.1 = 3
    · rw [if_pos k3] at h
      rcases ddN_sub _ (Nat.le_refl _) X h with h | h
      · rcases ddN_sub _ (Nat.le_refl _) X h with h | h
        · cases h
        · exact hA e0 X h
      · rw [hBB (c5 e4).1 X h, ew]
    · rw [if_neg k3] at h
      exact hA e0 X (kp_sub _ (Nat.le_refl _) X h)
