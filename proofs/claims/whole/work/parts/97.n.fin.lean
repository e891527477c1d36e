/-! pure: the reference's rewriting, abstractly -/
theorem pig {α : Type} [DecidableEq α] (g : Nat → α) : ∀ (n : Nat) (m : List α), (∀ i, i < n → g i ∈ m) → (∀ i j, i < j → j < n → g i ≠ g j) → n ≤ m.length
  | 0, m, _, _ => Nat.zero_le _
  | n + 1, m, h, h2 => by
    have hm := h n (Nat.lt_succ_self n)
    have ih := pig g n (m.erase (g n)) (fun i hi => (List.mem_erase_of_ne (h2 i n hi (Nat.lt_succ_self n))).2 (h i (Nat.lt_succ_of_lt hi))) (fun i j a b => h2 i j a (Nat.lt_succ_of_lt b))
    rw [List.length_erase_of_mem hm] at ih
    have := List.length_pos_of_mem hm
    omega
/-- the places that a rewriting may come to, and its lists -/
def Cl (P0 : List Nd) (DN : List (Nat × List Nat)) (DL : List (List Nat)) : Prop := DL.length ≤ 2 ^ 20 ∧ DN.length ≤ 2 ^ 18 ∧ ∀ n L, (n, L) ∈ DN → n < P0.length → (∀ H M, L = H ++ M → M ≠ [] → M ∈ DL) ∧ ((nd P0 n).1 = 1 → ((nd P0 n).2.1, qco (nd P0 n) :: L) ∈ DN) ∧ ((nd P0 n).1 ≠ 0 → (nd P0 n).1 ≠ 1 → ((nd P0 n).2.1, cF P0 n L) ∈ DN ∧ ((nd P0 n).2.2.1 ≠ 0 → ((nd P0 n).2.2.1 - 1, cS P0 n L) ∈ DN))
def RK (P0 : List Nd) (DN : List (Nat × List Nat)) (DL : List (List Nat)) (R : RS) : Prop := cOk R.1 ∧ (∀ X, X ∈ R.1 → X ∈ DL) ∧ (∃ i, i ≤ 14 ∧ R.2.1 = 2 ^ i) ∧ (∃ i, i ≤ 12 ∧ R.2.2.2 = 2 ^ i) ∧ (∀ k, k < R.2.2.1.length → (pr R.2.2.1 k).1 < P0.length ∧ (pr R.2.2.1 k).2.1 ≤ R.1.length ∧ ((pr R.2.2.1 k).1, lcn R.1 (pr R.2.2.1 k).2.1) ∈ DN) ∧ ∀ i j, i < j → j < R.2.2.1.length → ¬ ((pr R.2.2.1 i).1 = (pr R.2.2.1 j).1 ∧ (pr R.2.2.1 i).2.1 = (pr R.2.2.1 j).2.1)
/-- what is added -/
def RE (b : Nat) (R R2 : RS) : Prop := (∃ D, R2.1 = R.1 ++ D) ∧ R.2.1 ≤ R2.2.1 ∧ R.2.2.2 ≤ R2.2.2.2 ∧ ∃ Y, R2.2.2.1 = R.2.2.1 ++ Y ∧ ∀ y, y ∈ Y → y.1 < b
theorem RE.rf (b : Nat) (R : RS) : RE b R R := ⟨⟨[], (List.append_nil _).symm⟩, Nat.le_refl _, Nat.le_refl _, [], (List.append_nil _).symm, fun _ h => by cases h⟩
theorem RE.tr {b : Nat} {R R2 R3 : RS} (h : RE b R R2) (h2 : RE b R2 R3) : RE b R R3 := by
  obtain ⟨⟨D, e⟩, l, l', Y, y, hy⟩ := h
  obtain ⟨⟨D2, e2⟩, l2, l2', Y2, y2, hy2⟩ := h2
  refine ⟨⟨D ++ D2, by rw [e2, e, List.append_assoc]⟩, Nat.le_trans l l2, Nat.le_trans l' l2', Y ++ Y2, by rw [y2, y, List.append_assoc], fun z hz => ?_⟩
  rcases List.mem_append.mp hz with q | q
  · exact hy z q
  · exact hy2 z q
theorem RE.mono {b c : Nat} {R R2 : RS} (h : RE b R R2) (hb : b ≤ c) : RE c R R2 := by
  obtain ⟨d, l, l', Y, y, hy⟩ := h
  exact ⟨d, l, l', Y, y, fun z hz => Nat.lt_of_lt_of_le (hy z hz) hb⟩
theorem RE.lc {b : Nat} {R R2 : RS} (h : RE b R R2) : R.1.length ≤ R2.1.length ∧ ∀ r, r ≤ R.1.length → lcn R2.1 r = lcn R.1 r := by
  obtain ⟨⟨D, e⟩, -⟩ := h
  rw [e]
  exact ⟨by rw [List.length_append]; omega, fun r hr => lcn_l hr⟩
/-- one more list -/
theorem RK_lof {P0 : List Nd} {DN : List (Nat × List Nat)} {DL : List (List Nat)} {R : RS} {M : List Nat} (hc : DL.length ≤ 2 ^ 20) (h : RK P0 DN DL R) (hM : M ∈ DL) (hne : M ≠ []) : RK P0 DN DL ((lof (R.1, R.2.1) M).1, (lof (R.1, R.2.1) M).2, R.2.2) ∧ RE 0 R ((lof (R.1, R.2.1) M).1, (lof (R.1, R.2.1) M).2, R.2.2) ∧ (lof (R.1, R.2.1) M).2 ≤ 16384 := by
  obtain ⟨C, u, PS, v⟩ := R
  obtain ⟨k1, k2, ⟨i, hi, ei⟩, k4, k5, k6⟩ := h
  simp only at k1 k2 k4 k5 k6 ei
  have u9 : u ≤ 16384 := by rw [ei]; exact Nat.pow_le_pow_right (by decide) hi
  by_cases hm : M ∈ C
  · rw [show lof (((C, u, PS, v) : RS).1, ((C, u, PS, v) : RS).2.1) M = (C, u) from lof_m hm]
    exact ⟨⟨k1, k2, ⟨i, hi, ei⟩, k4, k5, k6⟩, RE.rf 0 _, u9⟩
  · have hlof : lof (C, u) M = (C ++ [M], if C.length = 64 * u then 2 * u else u) := if_neg hm
    show RK P0 DN DL ((lof (C, u) M).1, (lof (C, u) M).2, PS, v) ∧ RE 0 (C, u, PS, v) ((lof (C, u) M).1, (lof (C, u) M).2, PS, v) ∧ (lof (C, u) M).2 ≤ 16384
    rw [hlof]
    have k1' : cOk (C ++ [M]) := by
      cases M with
      | nil => exact absurd rfl hne
      | cons e es => exact cOk_one k1 hm
    have k2' : ∀ X, X ∈ C ++ [M] → X ∈ DL := fun X hX => by
      rcases List.mem_append.mp hX with q | q
      · exact k2 X q
      · rw [List.mem_singleton.mp q]; exact hM
    have hp : (C ++ [M]).length ≤ DL.length := pig (fun k => (C ++ [M]).getD k []) _ DL (fun k hk => k2' _ (getD_mem hk)) k1'.2
    rw [List.length_append] at hp
    have hp2 : C.length + 1 ≤ 2 ^ 20 := Nat.le_trans hp hc
    have hu : ∃ j, j ≤ 14 ∧ (if C.length = 64 * u then 2 * u else u) = 2 ^ j := by
      by_cases e : C.length = 64 * u
      · rw [if_pos e]
        by_cases e14 : i = 14
        · rw [e14] at ei
          omega
        · exact ⟨i + 1, by omega, by rw [ei, Nat.pow_succ]; omega⟩
      · rw [if_neg e]; exact ⟨i, hi, ei⟩
    have u2 : (if C.length = 64 * u then 2 * u else u) ≤ 16384 := by
      obtain ⟨j, hj, ej⟩ := hu
      rw [ej]; exact Nat.pow_le_pow_right (by decide) hj
    refine ⟨⟨k1', k2', hu, k4, fun k hk => ?_, k6⟩, ⟨⟨[M], rfl⟩, ?_, Nat.le_refl _, [], (List.append_nil _).symm, fun _ h => by cases h⟩, u2⟩
    · obtain ⟨a1, a2, a3⟩ := k5 k hk
      refine ⟨a1, ?_, ?_⟩
      · show (pr PS k).2.1 ≤ (C ++ [M]).length
        rw [List.length_append]; omega
      · show (_, lcn (C ++ [M]) _) ∈ DN
        rw [lcn_l a2]; exact a3
    · show u ≤ if C.length = 64 * u then 2 * u else u
      by_cases e : C.length = 64 * u
      · rw [if_pos e]; omega
      · rw [if_neg e]; exact Nat.le_refl _
theorem RK_lofs {P0 : List Nd} {DN : List (Nat × List Nat)} {DL : List (List Nat)} {R : RS} (hc : DL.length ≤ 2 ^ 20) (h : RK P0 DN DL R) : ∀ K : List Nat, (∀ H M, K = H ++ M → M ≠ [] → M ∈ DL) → RK P0 DN DL ((lofs (R.1, R.2.1) K).1, (lofs (R.1, R.2.1) K).2, R.2.2) ∧ RE 0 R ((lofs (R.1, R.2.1) K).1, (lofs (R.1, R.2.1) K).2, R.2.2) ∧ (lofs (R.1, R.2.1) K).2 ≤ 16384
  | [], _ => by
    obtain ⟨i, hi, ei⟩ := h.2.2.1
    exact ⟨h, RE.rf 0 _, by show R.2.1 ≤ 16384; rw [ei]; exact Nat.pow_le_pow_right (by decide) hi⟩
  | e :: K, hK => by
    obtain ⟨a1, a2, a3⟩ := RK_lofs hc h K (fun H M eH hM => hK (e :: H) M (by rw [eH]; rfl) hM)
    obtain ⟨b1, b2, b3⟩ := RK_lof hc a1 (hK [] (e :: K) rfl (by simp)) (by simp)
    exact ⟨b1, a2.tr b2, b3⟩
/-- one more pair -/
theorem RK_pad {P0 : List Nd} {DN : List (Nat × List Nat)} {DL : List (List Nat)} {R : RS} {n r : Nat} {x : Int32} (hc : DN.length ≤ 2 ^ 18) (h : RK P0 DN DL R) (hn : n < P0.length) (hr : r ≤ R.1.length) (hm : (n, lcn R.1 r) ∈ DN) (hno : ∀ k, k < R.2.2.1.length → ¬ ((pr R.2.2.1 k).1 = n ∧ (pr R.2.2.1 k).2.1 = r)) : RK P0 DN DL (R.1, R.2.1, (pad R.2.2 (n, r, x)).1, (pad R.2.2 (n, r, x)).2) ∧ RE (n + 1) R (R.1, R.2.1, (pad R.2.2 (n, r, x)).1, (pad R.2.2 (n, r, x)).2) ∧ (pad R.2.2 (n, r, x)).2 ≤ 4096 := by
  obtain ⟨C, u, PS, v⟩ := R
  obtain ⟨k1, k2, k3, ⟨i, hi, ei⟩, k5, k6⟩ := h
  simp only at k1 k2 k3 k5 k6 ei hr hm hno
  have k5' : ∀ k, k < (PS ++ [(n, r, x)]).length → (pr (PS ++ [(n, r, x)]) k).1 < P0.length ∧ (pr (PS ++ [(n, r, x)]) k).2.1 ≤ C.length ∧ ((pr (PS ++ [(n, r, x)]) k).1, lcn C (pr (PS ++ [(n, r, x)]) k).2.1) ∈ DN := fun k hk => by
    rw [List.length_append] at hk
    have hk2 : k < PS.length + 1 := hk
    by_cases e : k = PS.length
    · subst e
      rw [pr_e]
      exact ⟨hn, hr, hm⟩
    · rw [pr_l (by omega)]
      exact k5 k (by omega)
  have k6' : ∀ a b, a < b → b < (PS ++ [(n, r, x)]).length → ¬ ((pr (PS ++ [(n, r, x)]) a).1 = (pr (PS ++ [(n, r, x)]) b).1 ∧ (pr (PS ++ [(n, r, x)]) a).2.1 = (pr (PS ++ [(n, r, x)]) b).2.1) := fun a b hab hb => by
    rw [List.length_append] at hb
    have hk2 : b < PS.length + 1 := hb
    by_cases e : b = PS.length
    · subst e
      rw [pr_e, pr_l (by omega)]
      exact hno a hab
    · rw [pr_l (by omega), pr_l (by omega)]
      exact k6 a b hab (by omega)
  have hp : (PS ++ [(n, r, x)]).length ≤ DN.length := pig (fun k => ((pr (PS ++ [(n, r, x)]) k).1, lcn C (pr (PS ++ [(n, r, x)]) k).2.1)) _ DN (fun k hk => (k5' k hk).2.2) (fun a b hab hb z => by
    injection z with z1 z2
    exact k6' a b hab hb ⟨z1, lcn_inj k1 (k5' a (by omega)).2.1 (k5' b hb).2.1 z2⟩)
  rw [List.length_append] at hp
  have hp2 : PS.length + 1 ≤ 2 ^ 18 := Nat.le_trans hp hc
  have hv : ∃ j, j ≤ 12 ∧ (if PS.length = 64 * v then 2 * v else v) = 2 ^ j := by
    by_cases e : PS.length = 64 * v
    · rw [if_pos e]
      by_cases e14 : i = 12
      · rw [e14] at ei
        omega
      · exact ⟨i + 1, by omega, by rw [ei, Nat.pow_succ]; omega⟩
    · rw [if_neg e]; exact ⟨i, hi, ei⟩
  refine ⟨⟨k1, k2, k3, hv, k5', k6'⟩, ⟨⟨[], (List.append_nil _).symm⟩, Nat.le_refl _, ?_, [(n, r, x)], rfl, fun y hy => ?_⟩, ?_⟩
  · show v ≤ if PS.length = 64 * v then 2 * v else v
    by_cases e : PS.length = 64 * v
    · rw [if_pos e]; omega
    · rw [if_neg e]; exact Nat.le_refl _
  · rw [List.mem_singleton.mp hy]
    exact Nat.lt_succ_self n
  · obtain ⟨j, hj, ej⟩ := hv
    show (if PS.length = 64 * v then 2 * v else v) ≤ 4096
    rw [ej]; exact Nat.pow_le_pow_right (by decide) hj
