/-! pure: rows of nodes, as the reference gives them -/
theorem ix6 (n r c : Nat) : (200 * n + r) * 6 + c = n * 1200 + r * 6 + c := by omega
def Hm (I : QI) (n : Nat) (R : List (List Int32)) (w : Nat) : Prop := I 64 n = nI R.length ∧ Rp (I 66) n R w
def FM (n : Nat) (I I2 : QI) : Prop := (∀ b, b ≠ 64 → b ≠ 66 → b ≠ 68 → I2 b = I b) ∧ (∀ i, i < n * 1200 ∨ n * 1200 + 1200 ≤ i → I2 66 i = I 66 i) ∧ ∀ m, m ≠ n → I2 64 m = I 64 m
theorem FM.rf (n : Nat) (I : QI) : FM n I I := ⟨fun _ _ _ _ => rfl, fun _ _ => rfl, fun _ _ => rfl⟩
theorem FM.tr {n : Nat} {I I2 I3 : QI} (h : FM n I I2) (h2 : FM n I2 I3) : FM n I I3 := ⟨fun b h1 h3 h4 => (h2.1 b h1 h3 h4).trans (h.1 b h1 h3 h4), fun i hi => (h2.2.1 i hi).trans (h.2.1 i hi), fun m hm => (h2.2.2 m hm).trans (h.2.2 m hm)⟩
theorem Pm_fr {I I2 : QI} {P : List Nd} (hP : Pm I P) (h : ∀ b, 51 ≤ b → b ≤ 61 → I2 b = I b) : Pm I2 P := by
  refine ⟨by rw [h 51 (by omega) (by omega)]; exact hP.1, fun n hn => ?_⟩
  rw [h 55 (by omega) (by omega), h 56 (by omega) (by omega), h 57 (by omega) (by omega), h 58 (by omega) (by omega), h 59 (by omega) (by omega), h 60 (by omega) (by omega), h 61 (by omega) (by omega)]
  exact hP.2 n hn
theorem Tm_fr {I I2 : QI} {T : QT} (hT : Tm I T) (h : ∀ b, 51 ≤ b → b ≤ 54 → I2 b = I b) : Tm I2 T := by
  refine ⟨by rw [h 51 (by omega) (by omega)]; exact hT.1, fun u hu => ?_⟩
  rw [h 52 (by omega) (by omega), h 53 (by omega) (by omega), h 54 (by omega) (by omega)]
  exact hT.2 u hu
theorem FM.pm {n : Nat} {I I2 : QI} {P : List Nd} (h : FM n I I2) (hP : Pm I P) : Pm I2 P := Pm_fr hP (fun b h1 h2 => h.1 b (by omega) (by omega) (by omega))
theorem FM.tm {n : Nat} {I I2 : QI} {T : QT} (h : FM n I I2) (hT : Tm I T) : Tm I2 T := Tm_fr hT (fun b h1 h2 => h.1 b (by omega) (by omega) (by omega))
theorem reg2 {n m r c : Nat} (hmn : m ≠ n) (hrc : r * 6 + c < 1200) : m * 1200 + r * 6 + c < n * 1200 ∨ n * 1200 + 1200 ≤ m * 1200 + r * 6 + c := by
  rcases Nat.lt_or_gt_of_ne hmn with h3 | h3
  · exact Or.inl (by omega)
  · exact Or.inr (by omega)
theorem Hm.fa {n m w : Nat} {I I2 : QI} {R : List (List Int32)} (h : Hm I m R w) (hF : FM n I I2) (hm : m ≠ n) (hw : w ≤ 6) : Hm I2 m R w := by
  refine ⟨(hF.2.2 m hm).trans h.1, fun r hr h2 => ?_⟩
  rw [h.2 r hr h2]
  exact rowAt_eq.mpr (fun c hc => (hF.2.1 _ (reg2 hm (by omega))).symm)
theorem m_cellOf {I : QI} {n r c w : Nat} {L : List (List Int32)} {post : Int32 → Prop} (hn : n < 24) (hL : Hm I n L w) (hr : r < L.length) (hr2 : r < 200) (hc : c < w) (hw : w ≤ 6) (h : post ((L.getD r []).getD c UK)) : wX8_cellOf (nI n) (nI r) (nI c) I post := by
  rw [hL.2 r hr hr2, rowAt_get hc] at h
  unfold wX8_cellOf
  simp (disch := omega) only [fa_lit, nI_ltI, nI_leI, nI_eq, nI_add, pk_mul, nI_clamp, vp_in_nI, l_uk, l_n1, l_n1e, l_n1e2, l_n1l, l_n1l2, l_n1l3, not_true_eq_false, not_false_eq_true, true_implies, false_implies, true_and, and_true, and_self, forall_eq, bI_t, bI_f, Bool.false_eq_true, or_true, true_or, or_false, false_or, s1_ltx, if_true, if_false, Nat.add_zero, Nat.zero_add,  d_leF, d_leT, d_ltF, d_ltT, d_eqF, d_eqT]
  rw [ix6]
  exact h
/-- k cells written into the row that comes next, if there is room -/
def Wm (I I2 : QI) (n len k : Nat) (g : Nat → Int32) : Prop := (∀ b, b ≠ 66 → I2 b = I b) ∧ (∀ j, j < n * 1200 + len * 6 ∨ n * 1200 + len * 6 + k ≤ j → I2 66 j = I 66 j) ∧ (len < 200 → ∀ c, c < k → I2 66 (n * 1200 + len * 6 + c) = g c) ∧ (200 ≤ len → I2 66 = I 66)
theorem Wm.z (I : QI) (n len : Nat) (g : Nat → Int32) : Wm I I n len 0 g := ⟨fun _ _ => rfl, fun _ _ => rfl, fun _ c hc => absurd hc (Nat.not_lt_zero c), fun _ => rfl⟩
theorem Wm.put {I I2 : QI} {n len k : Nat} {g : Nat → Int32} (h : Wm I I2 n len k g) (hn : n < 24) (hl : I 64 n = nI len) (hl2 : len < 2 ^ 30) (hk : k < 6) {x : Int32} (hx : g k = x) {post : QI → Prop} (kk : ∀ I3, Wm I I3 n len (k + 1) g → post I3) : wX8_put (nI n) (nI k) x I2 post := by
  have hl3 : I2 64 n = nI len := by rw [h.1 64 (by omega)]; exact hl
  unfold wX8_put
  by_cases e : len < 200
  · simp (disch := omega) only [hl3, fa_lit, nI_ltI, nI_leI, nI_eq, nI_add, pk_mul, nI_clamp, vp_in_nI, l_uk, l_n1, l_n1e, l_n1e2, l_n1l, l_n1l2, l_n1l3, not_true_eq_false, not_false_eq_true, true_implies, false_implies, true_and, and_true, and_self, forall_eq, bI_t, bI_f, Bool.false_eq_true, or_true, true_or, or_false, false_or, s1_ltx, if_true, if_false, Nat.add_zero, Nat.zero_add,  d_leF, d_leT, d_ltF, d_ltT, d_eqF, d_eqT]
    rw [ix6]
    refine kk _ ⟨fun b hb => (nr_u2 hb).trans (h.1 b hb), fun j hj => ?_, fun _ c hc => ?_, fun z => absurd z (by omega)⟩
    · rw [q_u2_j I2 66 _ (by omega)]
      exact h.2.1 j (by omega)
    · by_cases e2 : c = k
      · subst e2
        rw [q_u2_s, hx]
      · rw [q_u2_j I2 66 _ (by omega)]
        exact h.2.2.1 e c (by omega)
  · simp (disch := omega) only [hl3, fa_lit, nI_ltI, nI_leI, nI_eq, nI_add, pk_mul, nI_clamp, vp_in_nI, l_uk, l_n1, l_n1e, l_n1e2, l_n1l, l_n1l2, l_n1l3, not_true_eq_false, not_false_eq_true, true_implies, false_implies, true_and, and_true, and_self, forall_eq, bI_t, bI_f, Bool.false_eq_true, or_true, true_or, or_false, false_or, s1_ltx, if_true, if_false, Nat.add_zero, Nat.zero_add,  d_leF, d_leT, d_ltF, d_ltT, d_eqF, d_eqT]
    have e3 := h.2.2.2 (by omega)
    exact kk _ ⟨h.1, fun j _ => by rw [e3], fun z => absurd z e, fun _ => e3⟩
theorem Wm.rd {I I2 : QI} {n len k : Nat} {g : Nat → Int32} (h : Wm I I2 n len k g) {m w : Nat} {A : List (List Int32)} (hA : Hm I m A w) (hmn : m ≠ n) (hw6 : w ≤ 6) (hk : k ≤ 6) : Hm I2 m A w := by
  refine ⟨by rw [h.1 64 (by omega)]; exact hA.1, fun r2 hr2 h2 => ?_⟩
  rw [hA.2 r2 hr2 h2]
  refine rowAt_eq.mpr (fun c hc => ?_)
  by_cases e : len < 200
  · refine (h.2.1 _ ?_).symm
    rcases reg2 (n := n) (r := r2) (c := c) hmn (by omega) with z | z
    · exact Or.inl (Nat.lt_of_lt_of_le z (Nat.le_add_right _ _))
    · refine Or.inr (Nat.le_trans ?_ z)
      rw [Nat.add_assoc]
      exact Nat.add_le_add_left (by clear z; omega) _
  · rw [h.2.2.2 (by omega)]
theorem Wm.fin {I I2 : QI} {n w : Nat} {R : List (List Int32)} {g : Nat → Int32} (hR : Hm I n R w) (hw : w ≤ 6) (h : Wm I I2 n R.length w g) : FM n I (q_u2 I2 64 n (nI (R.length + 1))) ∧ Hm (q_u2 I2 64 n (nI (R.length + 1))) n (R ++ [(List.range w).map g]) w ∧ (q_u2 I2 64 n (nI (R.length + 1))) 68 = I 68 := by
  refine ⟨⟨fun b h1 h2 h3 => (nr_u2 h1).trans (h.1 b h2), fun i hi => ?_, fun m hm => ?_⟩, ⟨?_, fun r hr h2 => ?_⟩, ?_⟩
  · rw [nr_u2 (by clear hi; omega)]
    by_cases e : R.length < 200
    · refine h.2.1 i ?_
      rcases hi with hi | hi
      · exact Or.inl (Nat.lt_of_lt_of_le hi (Nat.le_add_right _ _))
      · refine Or.inr (Nat.le_trans ?_ hi)
        rw [Nat.add_assoc]
        exact Nat.add_le_add_left (by clear hi; omega) _
    · rw [h.2.2.2 (by clear hi; omega)]
  · rw [q_u2_j _ _ _ hm, h.1 64 (by omega)]
  · rw [List.length_append]
    exact q_u2_s _ _ _ _
  · rw [List.length_append] at hr
    have hr2 : r < R.length + 1 := hr
    rw [nr_u2 (show (66 : Nat) ≠ 64 by omega)]
    by_cases e : r = R.length
    · subst e
      rw [List.getD_eq_getElem?_getD, List.getElem?_append_right (Nat.le_refl _), Nat.sub_self]
      show (List.range w).map g = rowAt (I2 66) n R.length w
      exact List.map_congr_left (fun c hc => (h.2.2.1 h2 c (List.mem_range.mp hc)).symm)
    · rw [List.getD_eq_getElem?_getD, List.getElem?_append_left (by omega), ← List.getD_eq_getElem?_getD, hR.2 r (by omega) h2]
      refine rowAt_eq.mpr (fun c hc => ?_)
      by_cases e2 : R.length < 200
      · exact (h.2.1 _ (Or.inl (by omega))).symm
      · rw [h.2.2.2 (by omega)]
  · rw [nr_u2 (by omega)]
    exact h.1 68 (by omega)
theorem m_copyRow {I I2 : QI} {T : QT} {P : List Nd} (hP : Pm I P) (hw : Pw T P) {m s n w wa len : Nat} {A : List (List Int32)} {g : Nat → Int32} (h : Wm I I2 n len wa g) (hl : I 64 n = nI len) (hl2 : len < 2 ^ 30) (hm : m < P.length) (hn : n < 24) (hmn : m ≠ n) (hA : Hm I m A w) (hwm : (nd P m).2.2.2.2.2.2 = w) (hw6 : wa + w ≤ 6) (hs : s < A.length) (hs2 : s < 200) (hg : ∀ c, c < w → g (wa + c) = (A.getD s []).getD c UK) {post : QI → Prop} (kk : ∀ I3, Wm I I3 n len (wa + w) g → post I3) : wX8_copyRow (nI n) (nI m) (nI s) (nI wa) I2 post := by
  have h24 := hw.1
  unfold wX8_copyRow
  refine lp (fun f i (I3 : QI) => wX8_copyRow_3 (nI n) (nI m) (nI s) (nI wa) post f (nI i) I3) (fun i I3 => Wm I I3 n len (wa + i) g) w ?_ ?_ 0 I2 (Nat.zero_le _) h
  · intro f I3 hI
    have e61 : I3 61 m = nI w := by rw [hI.1 61 (by omega), (hP.2 m hm).2.2.2.2.2.2, hwm]
    show wX8_copyRow_3 _ _ _ _ _ _ _ _
    rw [wX8_copyRow_3]
    simp (disch := omega) only [e61, fa_lit, nI_ltI, nI_leI, nI_eq, nI_add, pk_mul, nI_clamp, vp_in_nI, l_uk, l_n1, l_n1e, l_n1e2, l_n1l, l_n1l2, l_n1l3, not_true_eq_false, not_false_eq_true, true_implies, false_implies, true_and, and_true, and_self, forall_eq, bI_t, bI_f, Bool.false_eq_true, or_true, true_or, or_false, false_or, s1_ltx, if_true, if_false, Nat.add_zero, Nat.zero_add,  d_leF, d_leT, d_ltF, d_ltT, d_eqF, d_eqT]
    exact kk I3 hI
  · intro f i I3 hi hI hk
    have e61 : I3 61 m = nI w := by rw [hI.1 61 (by omega), (hP.2 m hm).2.2.2.2.2.2, hwm]
    show wX8_copyRow_3 _ _ _ _ _ _ _ _
    rw [wX8_copyRow_3]
    simp (disch := omega) only [e61, fa_lit, nI_ltI, nI_leI, nI_eq, nI_add, pk_mul, nI_clamp, vp_in_nI, l_uk, l_n1, l_n1e, l_n1e2, l_n1l, l_n1l2, l_n1l3, not_true_eq_false, not_false_eq_true, true_implies, false_implies, true_and, and_true, and_self, forall_eq, bI_t, bI_f, Bool.false_eq_true, or_true, true_or, or_false, false_or, s1_ltx, if_true, if_false, Nat.add_zero, Nat.zero_add,  d_leF, d_leT, d_ltF, d_ltT, d_eqF, d_eqT]
    refine m_cellOf (by omega) (hI.rd hA hmn (by omega) (by omega)) hs hs2 hi (by omega) ?_
    refine hI.put hn hl hl2 (by omega) (hg i hi) (fun I4 h4 => ?_)
    exact hk I4 h4
theorem m_isTrue {I : QI} {k : Nat} {x y : Int32} {post : Int32 → Prop} (hk : k < 6) (h : post (bI (isT k x y))) : wX8_isTrue x (nI k) y I post := by
  unfold isT hol at h
  unfold wX8_isTrue
  rcases (show k = 0 ∨ k = 1 ∨ k = 2 ∨ k = 3 ∨ k = 4 ∨ k = 5 by omega) with rfl | rfl | rfl | rfl | rfl | rfl
  · simp (disch := omega) only [fa_lit, nI_ltI, nI_leI, nI_eq, nI_add, pk_mul, nI_clamp, vp_in_nI, l_uk, l_n1, l_n1e, l_n1e2, l_n1l, l_n1l2, l_n1l3, not_true_eq_false, not_false_eq_true, true_implies, false_implies, true_and, and_true, and_self, forall_eq, bI_t, bI_f, Bool.false_eq_true, or_true, true_or, or_false, false_or, s1_ltx, if_true, if_false, Nat.add_zero, Nat.zero_add,  d_leF, d_leT, d_ltF, d_ltT, d_eqF, d_eqT]
    refine ⟨fun e => ?_, fun e => ⟨fun e2 => ?_, fun e2 => ⟨fun e3 => ?_, fun e3 => ?_⟩⟩⟩
    · simpa [e, bI_t, bI_f] using h
    · simpa [e2, bI_t, bI_f] using h
    · simpa [e, e2, e3, bI_t, bI_f] using h
    · subst e3
      simpa [e, e2, bI_t, bI_f] using h
  · simp (disch := omega) only [fa_lit, nI_ltI, nI_leI, nI_eq, nI_add, pk_mul, nI_clamp, vp_in_nI, l_uk, l_n1, l_n1e, l_n1e2, l_n1l, l_n1l2, l_n1l3, not_true_eq_false, not_false_eq_true, true_implies, false_implies, true_and, and_true, and_self, forall_eq, bI_t, bI_f, Bool.false_eq_true, or_true, true_or, or_false, false_or, s1_ltx, if_true, if_false, Nat.add_zero, Nat.zero_add,  d_leF, d_leT, d_ltF, d_ltT, d_eqF, d_eqT]
    refine ⟨fun e => ?_, fun e => ⟨fun e2 => ?_, fun e2 => ⟨fun e3 => ?_, fun e3 => ?_⟩⟩⟩
    · simpa [e, bI_t, bI_f] using h
    · simpa [e2, bI_t, bI_f] using h
    · simpa [e, e2, e3, bI_t, bI_f] using h
    · simpa [e, e2, e3, bI_t, bI_f] using h
  · simp (disch := omega) only [fa_lit, nI_ltI, nI_leI, nI_eq, nI_add, pk_mul, nI_clamp, vp_in_nI, l_uk, l_n1, l_n1e, l_n1e2, l_n1l, l_n1l2, l_n1l3, not_true_eq_false, not_false_eq_true, true_implies, false_implies, true_and, and_true, and_self, forall_eq, bI_t, bI_f, Bool.false_eq_true, or_true, true_or, or_false, false_or, s1_ltx, if_true, if_false, Nat.add_zero, Nat.zero_add,  d_leF, d_leT, d_ltF, d_ltT, d_eqF, d_eqT]
    refine ⟨fun e => ?_, fun e => ⟨fun e2 => ?_, fun e2 => ⟨fun e3 => ?_, fun e3 => ?_⟩⟩⟩
    · simpa [e, bI_t, bI_f] using h
    · simpa [e2, bI_t, bI_f] using h
    · simpa [e, e2, e3, bI_t, bI_f] using h
    · simpa [e, e2, e3, bI_t, bI_f] using h
  · simp (disch := omega) only [fa_lit, nI_ltI, nI_leI, nI_eq, nI_add, pk_mul, nI_clamp, vp_in_nI, l_uk, l_n1, l_n1e, l_n1e2, l_n1l, l_n1l2, l_n1l3, not_true_eq_false, not_false_eq_true, true_implies, false_implies, true_and, and_true, and_self, forall_eq, bI_t, bI_f, Bool.false_eq_true, or_true, true_or, or_false, false_or, s1_ltx, if_true, if_false, Nat.add_zero, Nat.zero_add,  d_leF, d_leT, d_ltF, d_ltT, d_eqF, d_eqT]
    refine ⟨fun e => ?_, fun e => ⟨fun e2 => ?_, fun e2 => ⟨fun e3 => ?_, fun e3 => ?_⟩⟩⟩
    · simpa [e, bI_t, bI_f] using h
    · simpa [e2, bI_t, bI_f] using h
    · simpa [e, e2, e3, bI_t, bI_f] using h
    · simpa [e, e2, e3, bI_t, bI_f] using h
  · simp (disch := omega) only [fa_lit, nI_ltI, nI_leI, nI_eq, nI_add, pk_mul, nI_clamp, vp_in_nI, l_uk, l_n1, l_n1e, l_n1e2, l_n1l, l_n1l2, l_n1l3, not_true_eq_false, not_false_eq_true, true_implies, false_implies, true_and, and_true, and_self, forall_eq, bI_t, bI_f, Bool.false_eq_true, or_true, true_or, or_false, false_or, s1_ltx, if_true, if_false, Nat.add_zero, Nat.zero_add,  d_leF, d_leT, d_ltF, d_ltT, d_eqF, d_eqT]
    refine ⟨fun e => ?_, fun e => ?_⟩
    · simpa [e, bI_t, bI_f] using h
    · simpa [e, bI_t, bI_f] using h
  · simp (disch := omega) only [fa_lit, nI_ltI, nI_leI, nI_eq, nI_add, pk_mul, nI_clamp, vp_in_nI, l_uk, l_n1, l_n1e, l_n1e2, l_n1l, l_n1l2, l_n1l3, not_true_eq_false, not_false_eq_true, true_implies, false_implies, true_and, and_true, and_self, forall_eq, bI_t, bI_f, Bool.false_eq_true, or_true, true_or, or_false, false_or, s1_ltx, if_true, if_false, Nat.add_zero, Nat.zero_add,  d_leF, d_leT, d_ltF, d_ltT, d_eqF, d_eqT]
    refine ⟨fun e => ?_, fun e => ?_⟩
    · simpa [e, bI_t, bI_f] using h
    · simpa [e, bI_t, bI_f] using h
theorem m_areSame {I : QI} {T : QT} {P : List Nd} (hP : Pm I P) (hw : Pw T P) {n m r s w : Nat} {A B : List (List Int32)} (hn : n < P.length) (hm : m < 24) (hA : Hm I n A w) (hB : Hm I m B w) (hwn : (nd P n).2.2.2.2.2.2 = w) (hw6 : w ≤ 6) (hr : r < A.length) (hr2 : r < 200) (hs : s < B.length) (hs2 : s < 200) {post : Int32 → Prop} (h : post (bI (decide (A.getD r [] = B.getD s [])))) : wX8_areSame (nI n) (nI r) (nI m) (nI s) I post := by
  have h24 := hw.1
  have e61 : I 61 n = nI w := by rw [(hP.2 n hn).2.2.2.2.2.2, hwn]
  unfold wX8_areSame
  refine lp (fun f i (b : Bool) => wX8_areSame_6 (nI n) (nI r) (nI m) (nI s) I post f (bI b) (nI i)) (fun i b => b = decide (∀ c, c < i → (A.getD r []).getD c UK = (B.getD s []).getD c UK)) w ?_ ?_ 0 true (Nat.zero_le _) (decide_eq_true (fun c hc => absurd hc (Nat.not_lt_zero c))).symm
  · intro f b hI
    have e2 : decide (A.getD r [] = B.getD s []) = b := by
      rw [hI, hA.2 r hr hr2, hB.2 s hs hs2]
      refine decide_eq_decide.mpr ⟨fun z c hc => by rw [z], fun z => rowAt_eq.mpr (fun c hc => ?_)⟩
      have := z c hc
      rwa [rowAt_get hc, rowAt_get hc] at this
    rw [e2] at h
    show wX8_areSame_6 _ _ _ _ _ _ _ _ _
    rw [wX8_areSame_6]
    simp (disch := omega) only [e61, fa_lit, nI_ltI, nI_leI, nI_eq, nI_add, pk_mul, nI_clamp, vp_in_nI, l_uk, l_n1, l_n1e, l_n1e2, l_n1l, l_n1l2, l_n1l3, not_true_eq_false, not_false_eq_true, true_implies, false_implies, true_and, and_true, and_self, forall_eq, bI_t, bI_f, Bool.false_eq_true, or_true, true_or, or_false, false_or, s1_ltx, if_true, if_false, Nat.add_zero, Nat.zero_add,  d_leF, d_leT, d_ltF, d_ltT, d_eqF, d_eqT]
    exact ⟨bI_01 b, h⟩
  · intro f i b hi hI hk
    show wX8_areSame_6 _ _ _ _ _ _ _ _ _
    rw [wX8_areSame_6]
    cases b
    · simp (disch := omega) only [e61, fa_lit, nI_ltI, nI_leI, nI_eq, nI_add, pk_mul, nI_clamp, vp_in_nI, l_uk, l_n1, l_n1e, l_n1e2, l_n1l, l_n1l2, l_n1l3, not_true_eq_false, not_false_eq_true, true_implies, false_implies, true_and, and_true, and_self, forall_eq, bI_t, bI_f, Bool.false_eq_true, or_true, true_or, or_false, false_or, s1_ltx, if_true, if_false, Nat.add_zero, Nat.zero_add,  d_leF, d_leT, d_ltF, d_ltT, d_eqF, d_eqT]
      refine hk false ?_
      exact (decide_eq_false (fun z => of_decide_eq_false hI.symm (fun c hc => z c (by omega)))).symm
    · simp (disch := omega) only [e61, fa_lit, nI_ltI, nI_leI, nI_eq, nI_add, pk_mul, nI_clamp, vp_in_nI, l_uk, l_n1, l_n1e, l_n1e2, l_n1l, l_n1l2, l_n1l3, not_true_eq_false, not_false_eq_true, true_implies, false_implies, true_and, and_true, and_self, forall_eq, bI_t, bI_f, Bool.false_eq_true, or_true, true_or, or_false, false_or, s1_ltx, if_true, if_false, Nat.add_zero, Nat.zero_add,  d_leF, d_leT, d_ltF, d_ltT, d_eqF, d_eqT]
      refine m_cellOf (by omega) hA hr hr2 hi hw6 (m_cellOf hm hB hs hs2 hi hw6 ?_)
      refine ⟨fun e => ?_, fun e => ?_⟩
      · refine hk false ?_
        exact (decide_eq_false (fun z => e (z i (by omega)))).symm
      · refine hk true ?_
        refine (decide_eq_true (fun c hc => ?_)).symm
        by_cases e2 : c = i
        · subst e2; exact e
        · exact of_decide_eq_true hI.symm c (by omega)
