/-! pure: the reference gives groups -/
theorem clp_eq (z : Int32) : clp z = if nI 99 < z then nI 99 else if z < -(nI 99) then -(nI 99) else z := by
  unfold clp
  have a1 : (99 : Int32).toInt = 99 := by decide
  have a2 : (-99 : Int32).toInt = -99 := by decide
  have e1 : nI 99 = 99 := rfl
  rw [e1]
  simp only [Int32.lt_iff_toInt_lt, a1, a2]
  by_cases h1 : z.toInt < 99
  · rw [if_pos h1, if_neg (show ¬ (99 : Int) < z.toInt by omega)]
    by_cases h2 : -99 < z.toInt
    · rw [if_pos h2, if_neg (by omega)]
    · rw [if_neg h2]
      by_cases h3 : z.toInt < -99
      · rw [if_pos h3]
      · rw [if_neg h3]
        refine Int32.toInt_inj.mp ?_
        rw [a2]
        omega
  · rw [if_neg h1, a1, if_pos (by omega)]
    by_cases h3 : 99 < z.toInt
    · rw [if_pos h3]
    · rw [if_neg h3, if_neg (by omega)]
      refine Int32.toInt_inj.mp ?_
      rw [a1]
      omega
theorem i_add0 (z : Int32) : z + nI 0 = z := Int32.add_zero z
/-- what the reference keeps of the least and the greatest fits what the class keeps -/
def gOk (k : Nat) (s : Nat × Int32 × Nat × Int32) (l g : Int32) : Prop := (s.1 = 0 ↔ l = UK) ∧ (s.1 = 0 ↔ g = UK) ∧ (k = 3 → l = s.2.2.2) ∧ (k ≠ 3 → g = s.2.2.2)
theorem gOk_s {k : Nat} {s : Nat × Int32 × Nat × Int32} {l g t l2 g2 : Int32} {b : Int32} {r : Nat} (h : gOk k s l g) (ht : ¬ t = UK) (hl : l2 = if l = UK then t else if l ≤ t then l else t) (hg : g2 = if g = UK then t else if t ≤ g then g else t) : gOk k (s.1 + 1, b, r, if s.1 = 0 ∨ bet k t s.2.2.2 = true then t else s.2.2.2) l2 g2 := by
  obtain ⟨h1, h2, h3, h4⟩ := h
  refine ⟨⟨fun z => (nomatch z), fun z => ?_⟩, ⟨fun z => (nomatch z), fun z => ?_⟩, fun z => ?_, fun z => ?_⟩
  · exfalso
    rw [hl] at z
    split at z
    · exact ht z
    · split at z
      · rename_i a _
        exact a z
      · exact ht z
  · exfalso
    rw [hg] at z
    split at z
    · exact ht z
    · split at z
      · rename_i a _
        exact a z
      · exact ht z
  · show l2 = if s.1 = 0 ∨ bet k t s.2.2.2 = true then t else s.2.2.2
    rw [hl, ← h3 z]
    unfold bet
    rw [if_pos z]
    by_cases e : l = UK
    · rw [if_pos e, if_pos (Or.inl (h1.mpr e))]
    · rw [if_neg e]
      by_cases e2 : l ≤ t
      · rw [if_pos e2, if_neg]
        intro e3
        rcases e3 with e3 | e3
        · exact e (h1.mp e3)
        · exact of_decide_eq_true e3 e2
      · rw [if_neg e2, if_pos (Or.inr (decide_eq_true e2))]
  · show g2 = if s.1 = 0 ∨ bet k t s.2.2.2 = true then t else s.2.2.2
    rw [hg, ← h4 z]
    unfold bet
    rw [if_neg z]
    by_cases e : g = UK
    · rw [if_pos e, if_pos (Or.inl (h2.mpr e))]
    · rw [if_neg e]
      by_cases e2 : t ≤ g
      · rw [if_pos e2, if_neg]
        intro e3
        rcases e3 with e3 | e3
        · exact e (h2.mp e3)
        · exact of_decide_eq_true e3 e2
      · rw [if_neg e2, if_pos (Or.inr (decide_eq_true e2))]
theorem smN_z {k c d : Nat} {A : List (List Int32)} {x : Int32} : ∀ {i : Nat}, (∀ j, j < i → ¬ (A.getD j []).getD c UK = x) → smN k c d A x i = (0, 0, 0, UK)
  | 0, _ => rfl
  | i + 1, h => by
    rw [smN, smN_z (i := i) (fun j hj => h j (by omega)), smS, if_neg (h i (by omega))]
theorem smN_r (k c d : Nat) (A : List (List Int32)) (x : Int32) : ∀ i, (smN k c d A x i).2.2.1 ≤ i
  | 0 => Nat.le_refl 0
  | i + 1 => by
    have := smN_r k c d A x i
    rw [smN, smS]
    split
    · split
      · exact Nat.succ_le_succ this
      · exact Nat.succ_le_succ this
    · exact Nat.le_succ_of_le this
theorem m_groupOf_48 {I : QI} {P : List Nd} (hP : Pm I P) {n d w fr : Nat} {x : Int32} {A : List (List Int32)} (hn : n < P.length) (h24 : P.length ≤ 24) (h1 : (nd P n).1 = 3) (ha : (nd P n).2.1 < n) (hA : Hm I (nd P n).2.1 A w) (hA2 : A.length ≤ 200) (hw6 : w ≤ 6) (hc : (nd P n).2.2.2.2.1 < w) (hd : d < w) (hde : (nd P n).2.2.2.2.2.1 = nI d) (hfr : fr ≤ A.length) (hz : ∀ j, j < fr → ¬ (A.getD j []).getD (nd P n).2.2.2.2.1 UK = x) {k : Nat} {y v : Int32} {K : Int32 → Int32 → Int32 → Int32 → Int32 → Int32 → Prop} {post : Int32 → Prop} (h : ∀ s l g, s = smN k (nd P n).2.2.2.2.1 d A x A.length → gOk k s l g → K v (nI s.2.2.1) (nI s.1) s.2.1 l g) : ∃ f, wX8_groupOf_48 (nI n) y I K post f v x 0 0 0 (-1000) (-1000) (nI fr) := by
  have o1e : o1 (nd P n) = nI (nd P n).2.2.2.2.1 := by unfold o1; rw [if_neg (by omega)]
  have o3e : o3 (nd P n) = nI d := by unfold o3; rw [if_neg (by omega), hde]
  have q := hP.2 n hn
  refine lp (fun f i (s : (Nat × Int32 × Nat × Int32) × Int32 × Int32) => wX8_groupOf_48 (nI n) y I K post f v x (nI s.1.2.2.1) (nI s.1.1) s.1.2.1 s.2.1 s.2.2 (nI i)) (fun i s => s.1 = smN k (nd P n).2.2.2.2.1 d A x i ∧ gOk k s.1 s.2.1 s.2.2) A.length ?_ ?_ fr ((0, 0, 0, UK), UK, UK) hfr ⟨(smN_z hz).symm, ⟨fun _ => rfl, fun _ => rfl⟩, ⟨fun _ => rfl, fun _ => rfl⟩, fun _ => rfl, fun _ => rfl⟩
  · rintro f ⟨s, l, g⟩ ⟨hs, hg⟩
    replace hs : s = smN k (nd P n).2.2.2.2.1 d A x A.length := hs
    replace hg : gOk k s l g := hg
    show wX8_groupOf_48 _ _ _ _ _ _ _ _ _ _ _ _ _ _
    rw [wX8_groupOf_48]
    simp (disch := omega) only [q.2.1, hA.1, fa_lit, nI_ltI, nI_leI, nI_eq, nI_add, pk_mul, nI_clamp, vp_in_nI, l_uk, l_n1, l_n1e, l_n1e2, l_n1l, l_n1l2, l_n1l3, not_true_eq_false, not_false_eq_true, true_implies, false_implies, true_and, and_true, and_self, forall_eq, bI_t, bI_f, Bool.false_eq_true, or_true, true_or, or_false, false_or, s1_ltx, if_true, if_false, Nat.add_zero, Nat.zero_add,  d_leF, d_leT, d_ltF, d_ltT, d_eqF, d_eqT]
    exact h s l g hs hg
  · rintro f i ⟨s, l, g⟩ hi ⟨hs, hg⟩ hk
    replace hs : s = smN k (nd P n).2.2.2.2.1 d A x i := hs
    replace hg : gOk k s l g := hg
    have r9 := smN_r k (nd P n).2.2.2.2.1 d A x i
    have k9 := smN_le k (nd P n).2.2.2.2.1 d A x i
    rw [← hs] at r9 k9
    show wX8_groupOf_48 _ _ _ _ _ _ _ _ _ _ _ _ _ _
    rw [wX8_groupOf_48]
    simp (disch := omega) only [q.2.1, q.2.2.2.1, q.2.2.2.2.2.1, o1e, o3e, hA.1, i_add0, fa_lit, nI_ltI, nI_leI, nI_eq, nI_add, pk_mul, nI_clamp, vp_in_nI, l_uk, l_n1, l_n1e, l_n1e2, l_n1l, l_n1l2, l_n1l3, not_true_eq_false, not_false_eq_true, true_implies, false_implies, true_and, and_true, and_self, forall_eq, bI_t, bI_f, Bool.false_eq_true, or_true, true_or, or_false, false_or, s1_ltx, if_true, if_false, Nat.add_zero, Nat.zero_add,  d_leF, d_leT, d_ltF, d_ltT, d_eqF, d_eqT]
    refine m_cellOf (by omega) hA hi (by omega) hc hw6 ?_
    have hk' : ∀ s' l' g', s' = smS k (nd P n).2.2.2.2.1 d x (A.getD i []) s → gOk k s' l' g' → wX8_groupOf_48 (nI n) y I K post f v x (nI s'.2.2.1) (nI s'.1) s'.2.1 l' g' (nI (i + 1)) := fun s' l' g' e e2 => hk (s', l', g') ⟨by rw [e, hs]; rfl, e2⟩
    unfold smS at hk'
    refine ⟨fun e => ?_, fun e => ?_⟩
    · rw [if_neg e] at hk'
      exact hk' s l g rfl hg
    · rw [if_pos e] at hk'
      refine m_cellOf (by omega) hA hi (by omega) hd hw6 ?_
      refine ⟨fun e2 => ?_, fun e2 => ?_⟩
      · rw [if_pos e2] at hk'
        exact hk' _ l g rfl hg
      · rw [if_neg e2] at hk'
        have hkk := fun l2 g2 a b => hk' _ l2 g2 rfl (gOk_s hg e2 a b)
        refine ⟨fun e3 => ⟨fun e4 => ?_, fun e4 => ⟨fun e5 => ?_, fun e5 => ?_⟩⟩, fun e3 => ⟨fun e6 => ⟨fun e4 => ?_, fun e4 => ⟨fun e5 => ?_, fun e5 => ?_⟩⟩, fun e6 => ⟨fun e4 => ?_, fun e4 => ⟨fun e5 => ?_, fun e5 => ?_⟩⟩⟩⟩
        · exact hkk _ _ (by rw [if_pos e3]) (by rw [if_pos e4])
        · exact hkk _ _ (by rw [if_pos e3]) (by rw [if_neg e4, if_pos e5])
        · exact hkk _ _ (by rw [if_pos e3]) (by rw [if_neg e4, if_neg e5])
        · exact hkk _ _ (by rw [if_neg e3, if_pos e6]) (by rw [if_pos e4])
        · exact hkk _ _ (by rw [if_neg e3, if_pos e6]) (by rw [if_neg e4, if_pos e5])
        · exact hkk _ _ (by rw [if_neg e3, if_pos e6]) (by rw [if_neg e4, if_neg e5])
        · exact hkk _ _ (by rw [if_neg e3, if_neg e6]) (by rw [if_pos e4])
        · exact hkk _ _ (by rw [if_neg e3, if_neg e6]) (by rw [if_neg e4, if_pos e5])
        · exact hkk _ _ (by rw [if_neg e3, if_neg e6]) (by rw [if_neg e4, if_neg e5])
theorem m_groupOf {I : QI} {P : List Nd} (hP : Pm I P) {n d w fr : Nat} {x : Int32} {A : List (List Int32)} (hn : n < P.length) (h24 : P.length ≤ 24) (h1 : (nd P n).1 = 3) (ha : (nd P n).2.1 < n) (hA : Hm I (nd P n).2.1 A w) (hA2 : A.length ≤ 200) (hw6 : w ≤ 6) (hc : (nd P n).2.2.2.2.1 < w) (hd : d < w) (hde : (nd P n).2.2.2.2.2.1 = nI d) (hk2 : (nd P n).2.2.2.1 < 5) (hfr : fr < A.length) (hx : (A.getD fr []).getD (nd P n).2.2.2.2.1 UK = x) (hz : ∀ j, j < fr → ¬ (A.getD j []).getD (nd P n).2.2.2.2.1 UK = x) {post : Int32 → Prop} (h : post (smR (nd P n).2.2.2.1 (smN (nd P n).2.2.2.1 (nd P n).2.2.2.2.1 d A x A.length))) : wX8_groupOf (nI n) (nI fr) I post := by
  have o1e : o1 (nd P n) = nI (nd P n).2.2.2.2.1 := by unfold o1; rw [if_neg (by omega)]
  have o2e : o2 (nd P n) = nI (nd P n).2.2.2.1 := by unfold o2; rw [if_neg (by omega), if_pos (by omega)]
  have q := hP.2 n hn
  unfold wX8_groupOf
  simp (disch := omega) only [q.2.1, q.2.2.2.1, q.2.2.2.2.1, o1e, o2e, fa_lit, nI_ltI, nI_leI, nI_eq, nI_add, pk_mul, nI_clamp, vp_in_nI, l_uk, l_n1, l_n1e, l_n1e2, l_n1l, l_n1l2, l_n1l3, not_true_eq_false, not_false_eq_true, true_implies, false_implies, true_and, and_true, and_self, forall_eq, bI_t, bI_f, Bool.false_eq_true, or_true, true_or, or_false, false_or, s1_ltx, if_true, if_false, Nat.add_zero, Nat.zero_add,  d_leF, d_leT, d_ltF, d_ltT, d_eqF, d_eqT]
  refine m_cellOf (by omega) hA hfr (by omega) hc hw6 ?_
  rw [hx]
  refine m_groupOf_48 (k := (nd P n).2.2.2.1) hP hn h24 h1 ha hA hA2 hw6 hc hd hde (by omega) hz (fun s l g hs hg => ?_)
  rw [← hs] at h
  have k9 := smN_le (nd P n).2.2.2.1 (nd P n).2.2.2.2.1 d A x A.length
  rw [← hs] at k9
  obtain ⟨g1, g2, g3, g4⟩ := hg
  generalize (nd P n).2.2.2.1 = k at *
  unfold smR at h
  have body : ∀ z, z = clp s.2.1 → ((¬ k = 0 → ((¬ k = 1 → ((¬ s.1 = 0 → ((¬ k = 2 → ((¬ k = 3 → post g) ∧ (k = 3 → post l))) ∧ (k = 2 → post z))) ∧ (s.1 = 0 → post UK))) ∧ (k = 1 → post (nI s.1)))) ∧ (k = 0 → post (nI s.2.2.1))) := by
    intro z hz2
    refine ⟨fun k0 => ⟨fun k1 => ⟨fun s0 => ⟨fun k2 => ⟨fun k3 => ?_, fun k3 => ?_⟩, fun k2 => ?_⟩, fun s0 => ?_⟩, fun k1 => ?_⟩, fun k0 => ?_⟩
    · rw [if_neg k0, if_neg k1, if_neg k2, ← g4 k3] at h
      exact h
    · rw [if_neg k0, if_neg k1, if_neg k2, ← g3 k3] at h
      exact h
    · rw [if_neg k0, if_neg k1, if_pos k2, if_neg s0, ← hz2] at h
      exact h
    · rw [if_neg k0, if_neg k1] at h
      by_cases k2 : k = 2
      · rw [if_pos k2, if_pos s0] at h
        exact h
      · rw [if_neg k2] at h
        by_cases k3 : k = 3
        · rw [← g3 k3, g1.mp s0] at h
          exact h
        · rw [← g4 k3, g2.mp s0] at h
          exact h
    · rw [if_neg k0, if_pos k1] at h
      exact h
    · rw [if_pos k0] at h
      exact h
  have ec := clp_eq s.2.1
  simp (disch := omega) only [fa_lit, nI_ltI, nI_leI, nI_eq, nI_add, pk_mul, nI_clamp, vp_in_nI, l_uk, l_n1, l_n1e, l_n1e2, l_n1l, l_n1l2, l_n1l3, not_true_eq_false, not_false_eq_true, true_implies, false_implies, true_and, and_true, and_self, forall_eq, bI_t, bI_f, Bool.false_eq_true, or_true, true_or, or_false, false_or, s1_ltx, if_true, if_false, Nat.add_zero, Nat.zero_add,  d_leF, d_leT, d_ltF, d_ltT, d_eqF, d_eqT]
  refine ⟨fun e => ⟨fun e2 => body _ ?_, fun e2 => body _ ?_⟩, fun e => body _ ?_⟩
  · rw [ec, if_neg (Int32.not_lt.mpr e2), if_neg (Int32.not_lt.mpr e)]
  · rw [ec, if_pos (Int32.not_le.mp e2)]
  · have e3 := Int32.not_le.mp e
    rw [ec, if_neg, if_pos e3]
    intro e4
    rw [Int32.lt_iff_toInt_lt] at e3 e4
    have a1 : (nI 99 : Int32).toInt = 99 := by decide
    have a2 : (-(nI 99) : Int32).toInt = -99 := by decide
    omega
theorem gd_l {α : Type} {L : List α} {y : α} {e : α} {r : Nat} (h : r < L.length) : (L ++ [y]).getD r e = L.getD r e := by
  rw [List.getD_eq_getElem?_getD, List.getElem?_append_left h, ← List.getD_eq_getElem?_getD]
theorem gd_e {α : Type} {L : List α} {y : α} {e : α} : (L ++ [y]).getD L.length e = y := by
  rw [List.getD_eq_getElem?_getD, List.getElem?_append_right (Nat.le_refl _), Nat.sub_self]
  rfl
theorem gpN_h {k c d : Nat} {A : List (List Int32)} : ∀ {i j : Nat}, j < i → ¬ frw (gpN k c d A i) 0 ((A.getD j []).getD c UK) = none
  | 0, j, h => absurd h (Nat.not_lt_zero j)
  | i + 1, j, h => by
    have up : ∀ (L : List (List Int32)) (y : List Int32) (v : Int32), ¬ frw L 0 v = none → ¬ frw (L ++ [y]) 0 v = none := by
      intro L y v h1 h2
      refine h1 (srch_n (fun r hr => ?_))
      have := srch_ni h2 r (by rw [List.length_append]; omega)
      rw [gd_l hr] at this
      exact this
    rw [gpN]
    by_cases e : frw (gpN k c d A i) 0 ((A.getD i []).getD c UK) = none
    · rw [if_pos e]
      by_cases e2 : j = i
      · subst e2
        intro h2
        have := srch_ni h2 (gpN k c d A j).length (by rw [List.length_append]; exact Nat.lt_succ_self _)
        rw [gd_e] at this
        exact of_decide_eq_false this rfl
      · exact up _ _ _ (gpN_h (by omega))
    · rw [if_neg e]
      by_cases e2 : j = i
      · subst e2; exact e
      · exact gpN_h (by omega)
theorem m_giveGroup_22 {I : QI} {P : List Nd} (hP : Pm I P) {n i w w2 : Nat} {A G : List (List Int32)} (hn : n < P.length) (h24 : P.length ≤ 24) (h1 : (nd P n).1 = 3) (ha : (nd P n).2.1 < n) (hA : Hm I (nd P n).2.1 A w) (hA2 : A.length ≤ 200) (hw6 : w ≤ 6) (hc : (nd P n).2.2.2.2.1 < w) (hi : i < A.length) (hG : Hm I n G w2) (hG2 : G.length ≤ 200) (hw2 : 0 < w2) (hw26 : w2 ≤ 6) {K : Int32 → Int32 → QI → Prop} {post : QI → Prop} (h : K (nI i) (bI (decide (frw G 0 ((A.getD i []).getD (nd P n).2.2.2.2.1 UK) = none))) I) : ∃ f, wX8_giveGroup_22 (nI n) K post f (nI i) 1 0 I := by
  have o1e : o1 (nd P n) = nI (nd P n).2.2.2.2.1 := by unfold o1; rw [if_neg (by omega)]
  have q := hP.2 n hn
  refine lp (fun f j (b : Bool) => wX8_giveGroup_22 (nI n) K post f (nI i) (bI b) (nI j) I) (fun j b => b = decide (∀ r, r < j → ¬ (G.getD r []).getD 0 UK = (A.getD i []).getD (nd P n).2.2.2.2.1 UK)) G.length ?_ ?_ 0 true (Nat.zero_le _) (decide_eq_true (fun r hr => absurd hr (Nat.not_lt_zero r))).symm
  · intro f b hb
    have e : decide (frw G 0 ((A.getD i []).getD (nd P n).2.2.2.2.1 UK) = none) = b := by
      rw [hb]
      refine decide_eq_decide.mpr ⟨fun z r hr => of_decide_eq_false (srch_ni z r hr), fun z => srch_n (fun r hr => decide_eq_false (z r hr))⟩
    rw [e] at h
    show wX8_giveGroup_22 _ _ _ _ _ _ _ _
    rw [wX8_giveGroup_22]
    simp (disch := omega) only [hG.1, fa_lit, nI_ltI, nI_leI, nI_eq, nI_add, pk_mul, nI_clamp, vp_in_nI, l_uk, l_n1, l_n1e, l_n1e2, l_n1l, l_n1l2, l_n1l3, not_true_eq_false, not_false_eq_true, true_implies, false_implies, true_and, and_true, and_self, forall_eq, bI_t, bI_f, Bool.false_eq_true, or_true, true_or, or_false, false_or, s1_ltx, if_true, if_false, Nat.add_zero, Nat.zero_add,  d_leF, d_leT, d_ltF, d_ltT, d_eqF, d_eqT]
    exact h
  · intro f j b hj hb hk
    show wX8_giveGroup_22 _ _ _ _ _ _ _ _
    rw [wX8_giveGroup_22]
    cases b
    · simp (disch := omega) only [hG.1, fa_lit, nI_ltI, nI_leI, nI_eq, nI_add, pk_mul, nI_clamp, vp_in_nI, l_uk, l_n1, l_n1e, l_n1e2, l_n1l, l_n1l2, l_n1l3, not_true_eq_false, not_false_eq_true, true_implies, false_implies, true_and, and_true, and_self, forall_eq, bI_t, bI_f, Bool.false_eq_true, or_true, true_or, or_false, false_or, s1_ltx, if_true, if_false, Nat.add_zero, Nat.zero_add,  d_leF, d_leT, d_ltF, d_ltT, d_eqF, d_eqT]
      refine hk false ?_
      exact (decide_eq_false (fun z => of_decide_eq_false hb.symm (fun r hr => z r (by omega)))).symm
    · simp (disch := omega) only [hG.1, q.2.1, q.2.2.2.1, o1e, fa_lit, nI_ltI, nI_leI, nI_eq, nI_add, pk_mul, nI_clamp, vp_in_nI, l_uk, l_n1, l_n1e, l_n1e2, l_n1l, l_n1l2, l_n1l3, not_true_eq_false, not_false_eq_true, true_implies, false_implies, true_and, and_true, and_self, forall_eq, bI_t, bI_f, Bool.false_eq_true, or_true, true_or, or_false, false_or, s1_ltx, if_true, if_false, Nat.add_zero, Nat.zero_add,  d_leF, d_leT, d_ltF, d_ltT, d_eqF, d_eqT]
      refine m_cellOf (c := 0) (by omega) hG hj (by omega) hw2 hw26 (m_cellOf (by omega) hA hi (by omega) hc hw6 ?_)
      refine ⟨fun e => ?_, fun e => ?_⟩
      · refine hk false ?_
        exact (decide_eq_false (fun z => z j (by omega) e)).symm
      · refine hk true ?_
        refine (decide_eq_true (fun r hr => ?_)).symm
        by_cases e2 : r = j
        · subst e2; exact e
        · exact of_decide_eq_true hb.symm r (by omega)
theorem m_giveGroup {I : QI} {T : QT} {P : List Nd} (hP : Pm I P) (hw : Pw T P) {n d w : Nat} {A : List (List Int32)} (hn : n < P.length) (h1 : (nd P n).1 = 3) (ha : (nd P n).2.1 < n) (hA : Hm I (nd P n).2.1 A w) (hA2 : A.length ≤ 200) (hw6 : w ≤ 6) (hc : (nd P n).2.2.2.2.1 < w) (hd : d < w) (hde : (nd P n).2.2.2.2.2.1 = nI d) (hk2 : (nd P n).2.2.2.1 < 5) (hR : Hm I n [] 2) {post : QI → Prop} (h : ∀ I2, FM n I I2 → Hm I2 n (gpN (nd P n).2.2.2.1 (nd P n).2.2.2.2.1 d A A.length) 2 → post I2) : wX8_giveGroup (nI n) I post := by
  have h24 := hw.1
  have o1e : o1 (nd P n) = nI (nd P n).2.2.2.2.1 := by unfold o1; rw [if_neg (by omega)]
  unfold wX8_giveGroup
  refine lp (fun f i (I2 : QI) => wX8_giveGroup_2 (nI n) post f (nI i) I2) (fun i I2 => FM n I I2 ∧ Hm I2 n (gpN (nd P n).2.2.2.1 (nd P n).2.2.2.2.1 d A i) 2) A.length ?_ ?_ 0 I (Nat.zero_le _) ⟨FM.rf _ _, hR⟩
  · rintro f I2 ⟨hF, hH⟩
    have q := (hF.pm hP).2 n hn
    show wX8_giveGroup_2 _ _ _ _ _
    rw [wX8_giveGroup_2]
    simp (disch := omega) only [q.2.1, (hA.fa hF (by omega) hw6).1, fa_lit, nI_ltI, nI_leI, nI_eq, nI_add, pk_mul, nI_clamp, vp_in_nI, l_uk, l_n1, l_n1e, l_n1e2, l_n1l, l_n1l2, l_n1l3, not_true_eq_false, not_false_eq_true, true_implies, false_implies, true_and, and_true, and_self, forall_eq, bI_t, bI_f, Bool.false_eq_true, or_true, true_or, or_false, false_or, s1_ltx, if_true, if_false, Nat.add_zero, Nat.zero_add,  d_leF, d_leT, d_ltF, d_ltT, d_eqF, d_eqT]
    exact h I2 hF hH
  · rintro f i I2 hi ⟨hF, hH⟩ hk
    have q := (hF.pm hP).2 n hn
    have hA3 := hA.fa hF (by omega) hw6
    have hl := gpN_le (nd P n).2.2.2.1 (nd P n).2.2.2.2.1 d A i
    show wX8_giveGroup_2 _ _ _ _ _
    rw [wX8_giveGroup_2]
    simp (disch := omega) only [q.2.1, hA3.1, fa_lit, nI_ltI, nI_leI, nI_eq, nI_add, pk_mul, nI_clamp, vp_in_nI, l_uk, l_n1, l_n1e, l_n1e2, l_n1l, l_n1l2, l_n1l3, not_true_eq_false, not_false_eq_true, true_implies, false_implies, true_and, and_true, and_self, forall_eq, bI_t, bI_f, Bool.false_eq_true, or_true, true_or, or_false, false_or, s1_ltx, if_true, if_false, Nat.add_zero, Nat.zero_add,  d_leF, d_leT, d_ltF, d_ltT, d_eqF, d_eqT]
    refine m_giveGroup_22 (hF.pm hP) hn h24 h1 ha hA3 hA2 hw6 hc hi hH (by omega) (by omega) (by omega) ?_
    by_cases e : frw (gpN (nd P n).2.2.2.1 (nd P n).2.2.2.2.1 d A i) 0 ((A.getD i []).getD (nd P n).2.2.2.2.1 UK) = none
    · rw [decide_eq_true e]
      simp (disch := omega) only [q.2.1, q.2.2.2.1, o1e, fa_lit, nI_ltI, nI_leI, nI_eq, nI_add, pk_mul, nI_clamp, vp_in_nI, l_uk, l_n1, l_n1e, l_n1e2, l_n1l, l_n1l2, l_n1l3, not_true_eq_false, not_false_eq_true, true_implies, false_implies, true_and, and_true, and_self, forall_eq, bI_t, bI_f, Bool.false_eq_true, or_true, true_or, or_false, false_or, s1_ltx, if_true, if_false, Nat.add_zero, Nat.zero_add,  d_leF, d_leT, d_ltF, d_ltT, d_eqF, d_eqT]
      refine m_cellOf (by omega) hA3 hi (by omega) hc hw6 ?_
      refine (Wm.z I2 n (gpN (nd P n).2.2.2.1 (nd P n).2.2.2.2.1 d A i).length (fun c => if c = 0 then (A.getD i []).getD (nd P n).2.2.2.2.1 UK else smR (nd P n).2.2.2.1 (smN (nd P n).2.2.2.1 (nd P n).2.2.2.2.1 d A ((A.getD i []).getD (nd P n).2.2.2.2.1 UK) A.length))).put (k := 0) (by omega) hH.1 (by omega) (by omega) rfl (fun I3 hW => ?_)
      refine m_groupOf (hW.pm (hF.pm hP)) hn h24 h1 ha (hW.rd hA3 (by omega) hw6 (by omega)) hA2 hw6 hc hd hde hk2 hi rfl (fun j hj z => ?_) ?_
      · have := gpN_h (k := (nd P n).2.2.2.1) (c := (nd P n).2.2.2.2.1) (d := d) (A := A) hj
        rw [z] at this
        exact this e
      · refine hW.put (k := 1) (by omega) hH.1 (by omega) (by omega) rfl (fun I4 hW2 => ?_)
        obtain ⟨x, y, z⟩ := hW2.fin hH (by omega)
        have e64 : I4 64 n = nI (gpN (nd P n).2.2.2.1 (nd P n).2.2.2.2.1 d A i).length := by rw [hW2.1 64 (by omega), hH.1]
        simp (disch := omega) only [e64, fa_lit, nI_ltI, nI_leI, nI_eq, nI_add, pk_mul, nI_clamp, vp_in_nI, l_uk, l_n1, l_n1e, l_n1e2, l_n1l, l_n1l2, l_n1l3, not_true_eq_false, not_false_eq_true, true_implies, false_implies, true_and, and_true, and_self, forall_eq, bI_t, bI_f, Bool.false_eq_true, or_true, true_or, or_false, false_or, s1_ltx, if_true, if_false, Nat.add_zero, Nat.zero_add,  d_leF, d_leT, d_ltF, d_ltT, d_eqF, d_eqT]
        refine hk _ ⟨hF.tr x, ?_⟩
        rw [gpN, if_pos e]
        exact y
    · rw [decide_eq_false e]
      simp (disch := omega) only [fa_lit, nI_ltI, nI_leI, nI_eq, nI_add, pk_mul, nI_clamp, vp_in_nI, l_uk, l_n1, l_n1e, l_n1e2, l_n1l, l_n1l2, l_n1l3, not_true_eq_false, not_false_eq_true, true_implies, false_implies, true_and, and_true, and_self, forall_eq, bI_t, bI_f, Bool.false_eq_true, or_true, true_or, or_false, false_or, s1_ltx, if_true, if_false, Nat.add_zero, Nat.zero_add,  d_leF, d_leT, d_ltF, d_ltT, d_eqF, d_eqT]
      refine hk I2 ⟨hF, ?_⟩
      rw [gpN, if_neg e]
      exact hH
