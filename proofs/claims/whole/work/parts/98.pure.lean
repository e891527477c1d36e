/-! pure: the claim: from the start through the loop -/
section PU
theorem z9 {I : QI} (hB : B9 I E80) {b i : Nat} (h1 : ¬ (b = 51 ∧ i = 13)) (h2 : ¬ (b = 0 ∧ i = 6)) (h3 : ¬ (b = 1 ∧ i = 2)) : I b i = 0 := by
  rw [hB, E80, lI9, if_neg h1, lI9, if_neg h2, lI9, if_neg h3, lI9]
theorem k9_K : ∀ j, j < 80 → q_K0[j]? = some ((L80.reverse.getD j (0, 0)).1) := by decide +kernel
theorem k9_Z : ∀ j, j < 80 → q_Z0[j]? = some ((L80.reverse.getD j (0, 0)).2) := by decide +kernel
theorem k9_R : ∀ k, k < 52 → ∀ j, j < 36 → (q_R0.getD k []).getD j none = none ∨ lk9 M80 k j = (q_R0.getD k []).getD j none := by decide +kernel
theorem k9_l : ∀ k, k < 52 → (q_R0.getD k []).length ≤ 36 := by decide +kernel
theorem s9_Sh {S : QS} (hA : A9 S L80 M80) : Sh S := by
  obtain ⟨n, kz, rf, -⟩ := hA
  replace n : S.2.1 = 80 := n
  refine ⟨Nat.le_of_eq n.symm, fun j c hj => ?_, fun j z hj => ?_, fun k l j r hk hl => ?_⟩
  · have h80 : j < 80 := (List.getElem?_eq_some_iff.1 hj).1
    rw [k9_K j h80] at hj
    exact ((kz j h80).1).trans (Option.some.inj hj)
  · have h80 : j < 80 := (List.getElem?_eq_some_iff.1 hj).1
    rw [k9_Z j h80] at hj
    exact ((kz j h80).2).trans (Option.some.inj hj)
  · have h52 : k < 52 := (List.getElem?_eq_some_iff.1 hk).1
    have e1 : q_R0.getD k [] = l := by rw [List.getD_eq_getElem?_getD, hk]; rfl
    have e2 : l.getD j none = some r := by rw [List.getD_eq_getElem?_getD, hl]; rfl
    have h36 : j < 36 := by
      have := (List.getElem?_eq_some_iff.1 hl).1
      have h3 := k9_l k h52
      rw [e1] at h3
      omega
    have h := k9_R k h52 j h36
    rw [e1, e2] at h
    rcases h with h | h
    · cases h
    · exact (rf k j).trans h
theorem s9_Gr {S : QS} (hA : A9 S L80 M80) : Gr S := by
  obtain ⟨n, kz, rf, -⟩ := hA
  replace n : S.2.1 = 80 := n
  have k : ∀ j, j < 80 → (L80.reverse.getD j (0, 0)).1 = 9 → S.2.2.1 j = 9 := fun j hj h => ((kz j hj).1).trans h
  intro j hj
  have hj2 : j = 25 ∨ j = 26 ∨ j = 28 ∨ j = 29 ∨ j = 30 := by
    simp only [q_gf, List.mem_cons, List.not_mem_nil, or_false] at hj
    exact hj
  rcases hj2 with rfl | rfl | rfl | rfl | rfl
  · exact ⟨70, (rf 51 25).trans (by decide +kernel), by omega, by omega, k 70 (by omega) (by decide +kernel)⟩
  · exact ⟨71, (rf 51 26).trans (by decide +kernel), by omega, by omega, k 71 (by omega) (by decide +kernel)⟩
  · exact ⟨72, (rf 51 28).trans (by decide +kernel), by omega, by omega, k 72 (by omega) (by decide +kernel)⟩
  · exact ⟨73, (rf 51 29).trans (by decide +kernel), by omega, by omega, k 73 (by omega) (by decide +kernel)⟩
  · exact ⟨74, (rf 51 30).trans (by decide +kernel), by omega, by omega, k 74 (by omega) (by decide +kernel)⟩
theorem s9_Sa {S : QS} (hA : A9 S L80 M80) : Sa S := by
  have n : S.2.1 = 80 := hA.1
  refine ⟨s9_Sh hA, fun j i r hj h => ?_, s9_Gr hA, by omega⟩
  rw [hA.2.2.1] at h
  have h9 : r < 80 := (hA.2.2.2 _ (lk9_m h)).2
  omega
theorem s9_AT {S : QS} {I : QI} (hA : A9 S L80 M80) (hB : B9 I E80) : AT S I ([], 1, [], 1) := by
  obtain ⟨n, kz, rf, -⟩ := hA
  replace n : S.2.1 = 80 := n
  have r : ∀ j x, lk9 M80 51 j = some x → S.2.2.2.2 51 j = some x := fun j x h => (rf 51 j).trans h
  have z : ∀ j, j < 80 → (L80.reverse.getD j (0, 0)).2 = 64 → S.2.2.2.1 j = 64 := fun j hj h => ((kz j hj).2).trans h
  refine AT.mk (p1 := 70) (p2 := 71) (q1 := 72) (q2 := 73) (q3 := 74) ⟨⟨r 25 70 (by decide +kernel), r 26 71 (by decide +kernel), r 28 72 (by decide +kernel), r 29 73 (by decide +kernel), r 30 74 (by decide +kernel)⟩, ⟨z 70 (by omega) (by decide +kernel), z 71 (by omega) (by decide +kernel), z 72 (by omega) (by decide +kernel), z 73 (by omega) (by decide +kernel), z 74 (by omega) (by decide +kernel)⟩, ?_, ?_, ?_⟩ ⟨z9 hB (by omega) (by omega) (by omega), fun k hk => absurd hk (Nat.not_lt_zero k)⟩ ⟨z9 hB (by omega) (by omega) (by omega), fun k hk => absurd hk (Nat.not_lt_zero k)⟩ ⟨fun k hk => absurd hk (Nat.not_lt_zero k), fun i j _ hj => absurd hj (Nat.not_lt_zero j)⟩ (Nat.zero_le _) (Nat.zero_le _) (by omega) (by omega) (by omega) (by omega) (by omega) (by omega)
  · show (70 ≤ 70 ∧ 70 < S.2.1) ∧ (70 ≤ 71 ∧ 71 < S.2.1) ∧ (70 ≤ 72 ∧ 72 < S.2.1) ∧ (70 ≤ 73 ∧ 73 < S.2.1) ∧ (70 ≤ 74 ∧ 74 < S.2.1)
    omega
  · show (70 < 75 ∨ 80 ≤ 70) ∧ (71 < 75 ∨ 80 ≤ 71) ∧ (72 < 75 ∨ 80 ≤ 72) ∧ (73 < 75 ∨ 80 ≤ 73) ∧ (74 < 75 ∨ 80 ≤ 74)
    omega
  · show 70 ≠ 71 ∧ 70 ≠ 72 ∧ 70 ≠ 73 ∧ 70 ≠ 74 ∧ 71 ≠ 72 ∧ 71 ≠ 73 ∧ 71 ≠ 74 ∧ 72 ≠ 73 ∧ 72 ≠ 74 ∧ 73 ≠ 74
    omega
def Z80 : Zs := ((0, fun _ => 0, fun _ => 0, fun _ _ _ => 0), [], 100000, [], [])
theorem s9_LR {S : QS} {I : QI} (hA : A9 S L80 M80) (hB : B9 I E80) : LR 0 Z80 S I 80 68345 := by
  have z : ∀ b i, ¬ (b = 51 ∧ i = 13) → ¬ (b = 0 ∧ i = 6) → ¬ (b = 1 ∧ i = 2) → I b i = nI 0 := fun b i h1 h2 h3 => z9 hB h1 h2 h3
  refine ⟨Nat.zero_le _, ⟨⟨Nat.zero_le _, fun t ht => ⟨Nat.zero_le _, Nat.zero_le _, fun h => absurd h (Nat.not_lt_zero t), fun _ => rfl⟩⟩, ⟨Nat.zero_le _, fun m hm => absurd hm (Nat.not_lt_zero m)⟩, fun m hm => absurd hm (Nat.not_lt_zero m), Nat.le_refl _, ⟨Nat.zero_le _, fun m hm => absurd hm (Nat.not_lt_zero m)⟩, ⟨Nat.zero_le _, fun m hm => absurd hm (Nat.not_lt_zero m)⟩⟩, ⟨⟨z _ _ (by omega) (by omega) (by omega), fun t ht => ⟨z _ _ (by omega) (by omega) (by omega), z _ _ (by omega) (by omega) (by omega), fun r c hr hc => z _ _ (by omega) (by omega) (by omega)⟩⟩, ⟨z _ _ (by omega) (by omega) (by omega), fun m hm => absurd hm (Nat.not_lt_zero m)⟩, ⟨1, Nat.le_refl _, (hB 1 2).trans (by decide +kernel), fun m hm => ⟨⟨0, Nat.zero_le _, z _ _ (by omega) (by omega) (by omega)⟩, fun e => ?_⟩⟩, (hB 0 6).trans (by decide +kernel), ⟨z _ _ (by omega) (by omega) (by omega), fun m hm => absurd hm (Nat.not_lt_zero m)⟩, ⟨z _ _ (by omega) (by omega) (by omega), fun m hm => absurd hm (Nat.not_lt_zero m)⟩⟩, ⟨⟨z _ _ (by omega) (by omega) (by omega), fun t ht => ⟨z _ _ (by omega) (by omega) (by omega), z _ _ (by omega) (by omega) (by omega), fun r c hr hc => z _ _ (by omega) (by omega) (by omega)⟩⟩, ⟨z _ _ (by omega) (by omega) (by omega), fun m hm => absurd hm (Nat.not_lt_zero m)⟩, (hB 51 13).trans (by decide +kernel), ⟨z _ _ (by omega) (by omega) (by omega), fun m hm => absurd hm (Nat.not_lt_zero m)⟩, ⟨z _ _ (by omega) (by omega) (by omega), fun m hm => absurd hm (Nat.not_lt_zero m)⟩⟩, 1, 1, ⟨⟨[], [], s9_AT hA hB⟩, ⟨0, by omega, rfl⟩, ⟨0, by omega, rfl⟩⟩, by omega, by omega⟩
  rw [z 27 m (by omega) (by omega) (by omega)] at e
  exact absurd e (by decide)
theorem q_law_pure : q_pure := by
  intro X hl
  refine law_start (X := X) ⟨rfl, fun j hj => absurd hj (Nat.not_lt_zero j), fun b i => rfl, fun e he => absurd he (by exact List.not_mem_nil)⟩ (fun b i => rfl) (fun S I J hA hB => ⟨s9_Sa hA, 513, ?_⟩)
  exact law_loop hl 512 0 Z80 S I J 80 68345 rfl (s9_LR hA hB)
end PU
