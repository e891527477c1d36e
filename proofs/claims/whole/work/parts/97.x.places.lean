/-! pure: how many places and lists a rewriting may come to -/
def one9 (a : Nat) : Nat → Bool := fun x => decide (x = a)
def ad9 (S : Nat → Bool) (a : Nat) : Nat → Bool := fun x => S x || decide (x = a)
def ct9 (S : Nat → Bool) : Nat → Nat
  | 0 => 0
  | k + 1 => ct9 S k + (if S k = true then 1 else 0)
theorem ct9_le (S : Nat → Bool) : ∀ k, ct9 S k ≤ k
  | 0 => Nat.le_refl _
  | k + 1 => by
    have := ct9_le S k
    rw [ct9]
    split <;> omega
theorem ct9_one0 (a : Nat) : ∀ k, k ≤ a → ct9 (one9 a) k = 0
  | 0, _ => rfl
  | k + 1, h => by
    have e : one9 a k = false := decide_eq_false (by omega)
    rw [ct9, ct9_one0 a k (by omega), e]
    rfl
theorem ct9_one (a : Nat) : ∀ k, ct9 (one9 a) k ≤ 1
  | 0 => Nat.zero_le _
  | k + 1 => by
    by_cases h : k ≤ a
    · rw [ct9, ct9_one0 a k h]
      split <;> omega
    · have e : one9 a k = false := decide_eq_false (by omega)
      rw [ct9, e]
      exact ct9_one a k
theorem ct9_ad (S : Nat → Bool) (a : Nat) : ∀ k, ct9 (ad9 S a) k ≤ ct9 S k + 1 ∧ (k ≤ a → ct9 (ad9 S a) k = ct9 S k)
  | 0 => ⟨Nat.zero_le _, fun _ => rfl⟩
  | k + 1 => by
    obtain ⟨h1, h2⟩ := ct9_ad S a k
    have e9 : ad9 S a k = (S k || decide (k = a)) := rfl
    refine ⟨?_, fun h => ?_⟩
    · rw [ct9, ct9, e9]
      by_cases e : k = a
      · rw [h2 (by omega)]
        split <;> split <;> omega
      · rw [decide_eq_false e, Bool.or_false]
        split <;> omega
    · rw [ct9, ct9, e9, decide_eq_false (show ¬ k = a by omega), Bool.or_false, h2 (by omega)]
def sfx : List Nat → List (List Nat)
  | [] => []
  | e :: K => (e :: K) :: sfx K
theorem sfx_l : ∀ K, (sfx K).length = K.length
  | [] => rfl
  | e :: K => by rw [sfx, List.length_cons, List.length_cons, sfx_l K]
theorem sfx_m {M : List Nat} (hM : M ≠ []) : ∀ {K H : List Nat}, K = H ++ M → M ∈ sfx K
  | [], H, h => absurd (List.append_eq_nil_iff.1 h.symm).2 hM
  | e :: K, [], h => by
    have h : e :: K = M := h
    rw [← h, sfx]
    exact List.mem_cons_self
  | e :: K, x :: H, h => by
    have h : e :: K = x :: (H ++ M) := h
    injection h with h1 h2
    rw [sfx]
    exact List.mem_cons_of_mem _ (sfx_m hM h2)
/-- the places come to from the places below a bound with one list -/
def Up (P : List Nd) : Nat → (Nat → Bool) → List Nat → List (Nat × List Nat)
  | 0, _, _ => []
  | k + 1, S, L => if S k = false then Up P k S L else (k, L) ::
    (if (nd P k).1 = 1 then Up P k S L ++ Up P k (one9 (nd P k).2.1) (qco (nd P k) :: L)
     else if (nd P k).1 = 2 ∧ (nd P k).2.2.2.1 < 2 then Up P k S L ++ (Up P k (one9 (nd P k).2.1) (cF P k L) ++ Up P k (one9 ((nd P k).2.2.1 - 1)) (cS P k L))
     else if (nd P k).1 = 2 then Up P k (ad9 S (nd P k).2.1) L
     else if (nd P k).1 = 4 ∧ (nd P k).2.2.2.1 = 0 then Up P k (ad9 (ad9 S (nd P k).2.1) ((nd P k).2.2.1 - 1)) L
     else Up P k S L)
/-- the lists that they make -/
def Vp (P : List Nd) : Nat → (Nat → Bool) → List Nat → List (List Nat)
  | 0, _, _ => []
  | k + 1, S, L => if S k = false then Vp P k S L else
    (if (nd P k).1 = 1 then (qco (nd P k) :: L) :: (Vp P k S L ++ Vp P k (one9 (nd P k).2.1) (qco (nd P k) :: L))
     else if (nd P k).1 = 2 ∧ (nd P k).2.2.2.1 < 2 then (sfx (cF P k L) ++ sfx (cS P k L)) ++ (Vp P k S L ++ (Vp P k (one9 (nd P k).2.1) (cF P k L) ++ Vp P k (one9 ((nd P k).2.2.1 - 1)) (cS P k L)))
     else if (nd P k).1 = 2 then Vp P k (ad9 S (nd P k).2.1) L
     else if (nd P k).1 = 4 ∧ (nd P k).2.2.2.1 = 0 then Vp P k (ad9 (ad9 S (nd P k).2.1) ((nd P k).2.2.1 - 1)) L
     else Vp P k S L)
theorem Up_in {P : List Nd} : ∀ {k : Nat} {S : Nat → Bool} {L : List Nat} {n : Nat}, n < k → S n = true → (n, L) ∈ Up P k S L
  | 0, S, L, n, h, _ => absurd h (Nat.not_lt_zero n)
  | k + 1, S, L, n, h, hS => by
    rw [Up]
    by_cases e : n = k
    · subst e
      rw [if_neg (by rw [hS]; decide)]
      exact List.mem_cons_self
    · have hk : n < k := by omega
      have q : ∀ a, ad9 S a n = true := fun a => by unfold ad9; rw [hS]; rfl
      have q2 : ∀ a b, ad9 (ad9 S a) b n = true := fun a b => by unfold ad9; rw [hS]; rfl
      split
      · exact Up_in hk hS
      · refine List.mem_cons_of_mem _ ?_
        split
        · exact List.mem_append.2 (Or.inl (Up_in hk hS))
        · split
          · exact List.mem_append.2 (Or.inl (Up_in hk hS))
          · split
            · exact Up_in hk (q _)
            · split
              · exact Up_in hk (q2 _ _)
              · exact Up_in hk hS
/-- what a node's parts are like -/
theorem kd_1 {T : QT} {P : List Nd} {k : Nat} {L : List Nat} (hw : Pw T P) (hk : k < P.length) (e : (nd P k).1 = 1) (hok : okL (nd P k).2.2.2.2.2.2 L) : (nd P k).2.1 < k ∧ (nd P (nd P k).2.1).2.2.2.2.2.2 = (nd P k).2.2.2.2.2.2 ∧ okL (nd P k).2.2.2.2.2.2 (qco (nd P k) :: L) := by
  have hwd := (hw.2 k hk).2.1
  unfold wd at hwd
  rw [if_neg (by omega), if_neg (by omega), if_neg (by omega)] at hwd
  have hq := qc_ok hw hk e hok
  rw [← hwd] at hq
  exact ⟨(hw.2 k hk).ab.1 (by omega), hwd.symm, hq⟩
theorem kd_2 {T : QT} {P : List Nd} {k : Nat} {L : List Nat} (hw : Pw T P) (hk : k < P.length) (e : (nd P k).1 = 2 ∧ (nd P k).2.2.2.1 < 2) (hok : okL (nd P k).2.2.2.2.2.2 L) : (nd P k).2.1 < k ∧ (nd P k).2.2.1 ≠ 0 ∧ (nd P k).2.2.1 - 1 < k ∧ (nd P k).2.2.2.2.2.2 = (nd P (nd P k).2.1).2.2.2.2.2.2 + (nd P ((nd P k).2.2.1 - 1)).2.2.2.2.2.2 ∧ okL (nd P (nd P k).2.1).2.2.2.2.2.2 (cF P k L) ∧ okL (nd P ((nd P k).2.2.1 - 1)).2.2.2.2.2.2 (cS P k L) := by
  have hwd := (hw.2 k hk).2.1
  unfold wd at hwd
  rw [if_neg (by omega), if_neg (by omega), if_pos e] at hwd
  have hb := ((hw.2 k hk).2.2.2.2.2.1 e.1).1
  exact ⟨(hw.2 k hk).ab.1 (by omega), hb, (hw.2 k hk).ab.2 hb, hwd, cF_ok hw hk hok, cS_ok hw hk hb hok⟩
theorem filt_l (p : Nat → Bool) : ∀ K : List Nat, (K.filter p).length + (K.filter (fun e => !p e)).length = K.length
  | [] => rfl
  | e :: K => by
    have ih := filt_l p K
    rw [List.filter_cons, List.filter_cons]
    cases h : p e
    · rw [if_neg (by decide), if_pos (by decide), List.length_cons, List.length_cons]
      omega
    · rw [if_pos rfl, if_neg (by decide), List.length_cons, List.length_cons]
      omega
theorem kd_2l {P : List Nd} {k : Nat} {L : List Nat} (e : (nd P k).1 = 2) : (cF P k L).length + (cS P k L).length ≤ L.length := by
  unfold cF cS
  rw [if_neg (by omega), if_neg (by omega), List.length_map]
  have h := filt_l (fun e => decide (e / 1200 < (nd P (nd P k).2.1).2.2.2.2.2.2)) (L.take (fre P k L))
  have e9 : (fun e => decide (¬ e / 1200 < (nd P (nd P k).2.1).2.2.2.2.2.2)) = (fun e => !decide (e / 1200 < (nd P (nd P k).2.1).2.2.2.2.2.2)) := by
    funext x
    exact decide_not
  rw [e9, h, List.length_take]
  omega
theorem filt_all {p : Nat → Bool} : ∀ {K : List Nat}, (∀ e, e ∈ K → p e = true) → K.filter p = K
  | [], _ => rfl
  | e :: K, h => by
    rw [List.filter_cons, if_pos (h e List.mem_cons_self), filt_all (fun x hx => h x (List.mem_cons_of_mem _ hx))]
theorem filt_none {p : Nat → Bool} : ∀ {K : List Nat}, (∀ e, e ∈ K → p e = false) → K.filter p = []
  | [], _ => rfl
  | e :: K, h => by
    rw [List.filter_cons, h e List.mem_cons_self, if_neg (by decide), filt_none (fun x hx => h x (List.mem_cons_of_mem _ hx))]
theorem kd_3 {T : QT} {P : List Nd} {k : Nat} {L : List Nat} (hw : Pw T P) (hk : k < P.length) (e : (nd P k).1 = 2) (e2 : ¬ (nd P k).2.2.2.1 < 2) (hok : okL (nd P k).2.2.2.2.2.2 L) : (nd P k).2.1 < k ∧ (nd P (nd P k).2.1).2.2.2.2.2.2 = (nd P k).2.2.2.2.2.2 ∧ cF P k L = L ∧ cS P k L = [] := by
  have hwd := (hw.2 k hk).2.1
  unfold wd at hwd
  rw [if_neg (by omega), if_neg (by omega), if_neg (by omega)] at hwd
  have ef : fre P k L = L.length := by
    unfold fre
    rw [if_pos e, if_neg (by omega), pre_all (fun x hx => by rw [← hwd]; exact (hok x hx).1)]
  refine ⟨(hw.2 k hk).ab.1 (by omega), hwd.symm, ?_, ?_⟩
  · unfold cF
    rw [if_neg (by omega), ef, List.take_length]
    exact filt_all (fun x hx => decide_eq_true (by rw [← hwd]; exact (hok x hx).1))
  · unfold cS
    rw [if_neg (by omega), ef, List.take_length, filt_none (fun x hx => decide_eq_false (fun z => z (by rw [← hwd]; exact (hok x hx).1)))]
    rfl
theorem kd_4 {T : QT} {P : List Nd} {k : Nat} {L : List Nat} (hw : Pw T P) (hk : k < P.length) (e : (nd P k).1 = 4 ∧ (nd P k).2.2.2.1 = 0) : (nd P k).2.1 < k ∧ (nd P k).2.2.1 - 1 < k ∧ (nd P (nd P k).2.1).2.2.2.2.2.2 = (nd P k).2.2.2.2.2.2 ∧ (nd P ((nd P k).2.2.1 - 1)).2.2.2.2.2.2 = (nd P k).2.2.2.2.2.2 ∧ cF P k L = L ∧ cS P k L = L := by
  have hwd := (hw.2 k hk).2.1
  unfold wd at hwd
  rw [if_neg (by omega), if_neg (by omega), if_neg (by omega)] at hwd
  have h4 := (hw.2 k hk).2.2.2.2.2.2.2 e.1
  obtain ⟨eF, eS, -⟩ := cF_a (L := L) e
  exact ⟨(hw.2 k hk).ab.1 (by omega), (hw.2 k hk).ab.2 h4.1, hwd.symm, by rw [h4.2.2.2.2.2]; exact hwd.symm, eF, eS⟩
