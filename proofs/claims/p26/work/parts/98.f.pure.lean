/-! pure: the claim: from the start through the loop -/
section PU
theorem z9 {I : QI} (hB : B9 I E102) {b i : Nat} (h1 : ¬ (b = 51 ∧ i = 6)) (h2 : ¬ (b = 52 ∧ i = 2)) (h3 : ¬ (b = 0 ∧ i = 6)) (h4 : ¬ (b = 1 ∧ i = 2)) : I b i = 0 := by
  rw [hB, E102, lI9, if_neg h1, lI9, if_neg h2, lI9, if_neg h3, lI9, if_neg h4, lI9]
theorem k9_K : ∀ j, j < 51 → q_K0[j]? = some ((L102.reverse.getD j (0, 0)).1) ∧ q_K0[j]? = some ((L102.reverse.getD (q_s j) (0, 0)).1) := by decide +kernel
theorem k9_Z : ∀ j, j < 51 → q_Z0[j]? = some ((L102.reverse.getD j (0, 0)).2) ∧ q_Z0[j]? = some ((L102.reverse.getD (q_s j) (0, 0)).2) := by decide +kernel
theorem k9_R : ∀ k, k < 51 → ∀ j, j < 12 → (q_R0.getD k []).getD j none = none ∨ (lk9 M102 k j = (q_R0.getD k []).getD j none ∧ (lk9 M102 (q_s k) j).map q_s = (q_R0.getD k []).getD j none) := by decide +kernel
theorem k9_l : ∀ k, k < 51 → (q_R0.getD k []).length ≤ 12 := by decide +kernel
theorem k9_n : q_R0.length ≤ 51 ∧ q_K0.length = 51 ∧ q_Z0.length = 51 := by decide +kernel
theorem k9_r {k j r : Nat} {l : List (Option Nat)} (hk : q_R0[k]? = some l) (hl : l[j]? = some (some r)) : lk9 M102 k j = some r ∧ (lk9 M102 (q_s k) j).map q_s = some r := by
  have h51 : k < 51 := Nat.lt_of_lt_of_le (List.getElem?_eq_some_iff.1 hk).1 k9_n.1
  have e1 : q_R0.getD k [] = l := by rw [List.getD_eq_getElem?_getD, hk]; rfl
  have e2 : l.getD j none = some r := by rw [List.getD_eq_getElem?_getD, hl]; rfl
  have h12 : j < 12 := by
    have := (List.getElem?_eq_some_iff.1 hl).1
    have h3 := k9_l k h51
    rw [e1] at h3
    omega
  have h := k9_R k h51 j h12
  rw [e1, e2] at h
  rcases h with h | h
  · cases h
  · exact h
theorem s9_Sh {S : QS} (hA : A9 S L102 M102) : Sh S ∧ Sh (q_sS S) := by
  obtain ⟨n, kz, rf, -⟩ := hA
  replace n : S.2.1 = 102 := n
  replace kz : ∀ j, j < 102 → S.2.2.1 j = (L102.reverse.getD j (0, 0)).1 ∧ S.2.2.2.1 j = (L102.reverse.getD j (0, 0)).2 := kz
  refine ⟨⟨by omega, fun j c hj => ?_, fun j z hj => ?_, fun k l j r hk hl => ?_⟩, by show 51 ≤ S.2.1; omega, fun j c hj => ?_, fun j z hj => ?_, fun k l j r hk hl => ?_⟩
  · have h51 : j < 51 := Nat.lt_of_lt_of_eq (List.getElem?_eq_some_iff.1 hj).1 k9_n.2.1
    rw [(k9_K j h51).1] at hj
    exact ((kz j (by omega)).1).trans (Option.some.inj hj)
  · have h51 : j < 51 := Nat.lt_of_lt_of_eq (List.getElem?_eq_some_iff.1 hj).1 k9_n.2.2
    rw [(k9_Z j h51).1] at hj
    exact ((kz j (by omega)).2).trans (Option.some.inj hj)
  · exact (rf k j).trans (k9_r hk hl).1
  · have h51 : j < 51 := Nat.lt_of_lt_of_eq (List.getElem?_eq_some_iff.1 hj).1 k9_n.2.1
    rw [(k9_K j h51).2] at hj
    show S.2.2.1 (q_s j) = c
    exact ((kz (q_s j) ((q_s_lt (Nat.le_refl _)).2 (by omega))).1).trans (Option.some.inj hj)
  · have h51 : j < 51 := Nat.lt_of_lt_of_eq (List.getElem?_eq_some_iff.1 hj).1 k9_n.2.2
    rw [(k9_Z j h51).2] at hj
    show S.2.2.2.1 (q_s j) = z
    exact ((kz (q_s j) ((q_s_lt (Nat.le_refl _)).2 (by omega))).2).trans (Option.some.inj hj)
  · show (S.2.2.2.2 (q_s k) j).map q_s = some r
    rw [rf (q_s k) j]
    exact (k9_r hk hl).2
theorem s9_Sl {X : QX} {S : QS} (hA : A9 S L102 M102) (hE : S.1 1000000 = X.2.1.1) : Sl X S := by
  have n : S.2.1 = 102 := hA.1
  refine ⟨(s9_Sh hA).1, (s9_Sh hA).2, by omega, by omega, fun j i r hj h => ?_, hE⟩
  rw [hA.2.2.1] at h
  have h9 : r < 102 := (hA.2.2.2 _ (lk9_m h)).2
  omega
def Z102 : Zs := ((0, fun _ => 0, fun _ => 0, fun _ _ _ => 0), [], 100000, [], [])
theorem s9_Rw : Rw Z102 := ⟨⟨Nat.zero_le _, fun t ht => ⟨Nat.zero_le _, Nat.zero_le _, fun h => absurd h (Nat.not_lt_zero t), fun _ => rfl⟩⟩, ⟨Nat.zero_le _, fun m hm => absurd hm (Nat.not_lt_zero m)⟩, fun m hm => absurd hm (Nat.not_lt_zero m), Nat.le_refl _, ⟨Nat.zero_le _, fun m hm => absurd hm (Nat.not_lt_zero m)⟩, ⟨Nat.zero_le _, fun m hm => absurd hm (Nat.not_lt_zero m)⟩⟩
theorem s9_Rc {I : QI} (h6 : I 0 6 = nI 100000) (h2 : I 1 2 = nI 1) (z : ∀ b i, b < 51 → ¬ (b = 0 ∧ i = 6) → ¬ (b = 1 ∧ i = 2) → I b i = nI 0) : Rc I Z102 0 := by
  refine ⟨⟨z _ _ (by omega) (by omega) (by omega), fun t ht => ⟨z _ _ (by omega) (by omega) (by omega), z _ _ (by omega) (by omega) (by omega), fun r c hr hc => z _ _ (by omega) (by omega) (by omega)⟩⟩, ⟨z _ _ (by omega) (by omega) (by omega), fun m hm => absurd hm (Nat.not_lt_zero m)⟩, ⟨1, Nat.le_refl _, h2, fun m hm => ⟨⟨0, Nat.zero_le _, z _ _ (by omega) (by omega) (by omega)⟩, fun e => ?_⟩⟩, h6, ⟨z _ _ (by omega) (by omega) (by omega), fun m hm => absurd hm (Nat.not_lt_zero m)⟩, ⟨z _ _ (by omega) (by omega) (by omega), fun m hm => absurd hm (Nat.not_lt_zero m)⟩⟩
  rw [z 27 m (by omega) (by omega) (by omega)] at e
  exact absurd e (by decide)
theorem s9_Both {I : QI} (hB : B9 I E102) : Both I Z102 0 := by
  refine ⟨s9_Rc ((hB 0 6).trans (by decide +kernel)) ((hB 1 2).trans (by decide +kernel)) (fun b i h0 h1 h2 => z9 hB (by omega) (by omega) h1 h2), s9_Rc ((hB 51 6).trans (by decide +kernel)) ((hB 52 2).trans (by decide +kernel)) (fun b i h0 h1 h2 => ?_)⟩
  show I (q_s b) i = nI 0
  rw [q_s_lo h0]
  exact z9 hB (by omega) (by omega) (by omega) (by omega)
theorem s9_law {X : QX} (hl : X.2.1.2.1 ≤ 260) {S : QS} {I : QI} {J : QJ} {post : Int32 → Prop} (hpost : post 1) (hA : A9 S [] []) (hB : B9 I []) (hE : S.1 1000000 = X.2.1.1) : wL_start X post S I J := by
  refine law_start hA hB hE (fun S I J hA hB hE => ⟨s9_Sl hA hE, ?_⟩)
  refine law_18 hl hpost ⟨Z102, s9_Rw, s9_Both hB, s9_Sl hA hE, ?_, Nat.le_refl _, Nat.le_refl _⟩
  have n : S.2.1 = 102 := hA.1
  omega
end PU
