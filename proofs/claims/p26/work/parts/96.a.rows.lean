/-! pure: rows of nodes, as the class keeps them -/
def rowAt (f : Nat → Int32) (n r w : Nat) : List Int32 := (List.range w).map (fun c => f (n * 1200 + r * 6 + c))
theorem rowAt_get {f : Nat → Int32} {n r w c : Nat} (h : c < w) : (rowAt f n r w).getD c UK = f (n * 1200 + r * 6 + c) := by
  unfold rowAt
  rw [List.getD_eq_getElem?_getD, List.getElem?_map, List.getElem?_range h]
  rfl
theorem rowAt_eq {f g : Nat → Int32} {n r m s w : Nat} : rowAt f n r w = rowAt g m s w ↔ ∀ c, c < w → f (n * 1200 + r * 6 + c) = g (m * 1200 + s * 6 + c) := by
  unfold rowAt
  constructor
  · intro h c hc
    have h2 := congrArg (fun l => l.getD c UK) h
    simp only [List.getD_eq_getElem?_getD, List.getElem?_map, List.getElem?_range hc] at h2
    exact h2
  · intro h
    exact List.map_congr_left (fun c hc => h c (List.mem_range.mp hc))
def Rp (f : Nat → Int32) (n : Nat) (L : List (List Int32)) (w : Nat) : Prop := ∀ r, r < L.length → r < 200 → L.getD r [] = rowAt f n r w
/-- what a node's filling may change -/
def FA (n : Nat) (I I2 : QI) : Prop := (∀ b, b ≠ 24 → b ≠ 25 → b ≠ 29 → I2 b = I b) ∧ (∀ i, i < n * 1200 ∨ n * 1200 + 1200 ≤ i → I2 24 i = I 24 i) ∧ ∀ m, m ≠ n → I2 25 m = I 25 m
theorem FA.rf (n : Nat) (I : QI) : FA n I I := ⟨fun _ _ _ _ => rfl, fun _ _ => rfl, fun _ _ => rfl⟩
theorem FA.tr {n : Nat} {I I2 I3 : QI} (h : FA n I I2) (h2 : FA n I2 I3) : FA n I I3 := ⟨fun b h1 h3 h4 => (h2.1 b h1 h3 h4).trans (h.1 b h1 h3 h4), fun i hi => (h2.2.1 i hi).trans (h.2.1 i hi), fun m hm => (h2.2.2 m hm).trans (h.2.2 m hm)⟩
theorem Pc_fr {I I2 : QI} {P : List Nd} (hP : Pc I P) (h : ∀ b, 15 ≤ b → b ≤ 22 → I2 b = I b) : Pc I2 P := by
  refine ⟨by rw [h 15 (by omega) (by omega)]; exact hP.1, fun n hn => ?_⟩
  rw [h 16 (by omega) (by omega), h 17 (by omega) (by omega), h 18 (by omega) (by omega), h 19 (by omega) (by omega), h 20 (by omega) (by omega), h 21 (by omega) (by omega), h 22 (by omega) (by omega)]
  exact hP.2 n hn
theorem Tc_fr {I I2 : QI} {T : QT} (hT : Tc I T) (h : ∀ b, b < 17 → I2 b = I b) : Tc I2 T := by
  refine ⟨by rw [h 1 (by omega)]; exact hT.1, fun u hu => ?_⟩
  rw [h (3 + 3 * u) (by omega), h (4 + 3 * u) (by omega)]
  exact hT.2 u hu
theorem FA.pc {n : Nat} {I I2 : QI} {P : List Nd} (h : FA n I I2) (hP : Pc I P) : Pc I2 P := Pc_fr hP (fun b h1 h2 => h.1 b (by omega) (by omega) (by omega))
theorem FA.tc {n : Nat} {I I2 : QI} {T : QT} (h : FA n I I2) (hT : Tc I T) : Tc I2 T := Tc_fr hT (fun b h1 => h.1 b (by omega) (by omega) (by omega))
/-- a node's rows so far -/
def Hd (I : QI) (n : Nat) (R : List (List Int32)) (w : Nat) : Prop := I 25 n = nI R.length ∧ R.length ≤ 200 ∧ Rp (I 24) n R w
theorem Hd.fa {n m w : Nat} {I I2 : QI} {R : List (List Int32)} (h : Hd I m R w) (hF : FA n I I2) (hm : m ≠ n) (hw : w ≤ 6) : Hd I2 m R w := by
  refine ⟨(hF.2.2 m hm).trans h.1, h.2.1, fun r hr h2 => ?_⟩
  rw [h.2.2 r hr h2]
  refine rowAt_eq.mpr (fun c hc => (hF.2.1 _ ?_).symm)
  rcases Nat.lt_or_gt_of_ne hm with h3 | h3
  · exact Or.inl (by omega)
  · exact Or.inr (by omega)
section RW
variable {I : QI} {post : Int32 → Prop} {L : List (List Int32)} {n r c w : Nat}
theorem p_countOf (hn : n < 24) (h : post (I 25 n)) : wX0_countOf (nI n) I post := by
  unfold wX0_countOf
  simp (disch := omega) only [fa_lit, nI_ltI, nI_leI, nI_eq, nI_add, pk_mul, nI_clamp, vp_in_nI, l_uk, l_n1, l_n1e, l_n1e2, l_n1l, l_n1l2, l_n1l3, not_true_eq_false, not_false_eq_true, true_implies, false_implies, true_and, and_true, and_self, forall_eq, bI_t, bI_f, Bool.false_eq_true, or_true, true_or, or_false, false_or, s1_ltx, if_true, if_false, Nat.add_zero, Nat.zero_add,  d_leF, d_leT, d_ltF, d_ltT, d_eqF, d_eqT]
  exact h
theorem p_valueAt (hn : n < 24) (hR : Hd I n L w) (hr : r < L.length) (hc : c < w) (hw : w ≤ 6) (h : post ((L.getD r []).getD c UK)) : wX0_valueAt (nI n) (nI r) (nI c) I post := by
  have h2 := hR.2.1
  rw [hR.2.2 r hr (by omega), rowAt_get hc] at h
  unfold wX0_valueAt
  simp (disch := omega) only [fa_lit, nI_ltI, nI_leI, nI_eq, nI_add, pk_mul, nI_clamp, vp_in_nI, l_uk, l_n1, l_n1e, l_n1e2, l_n1l, l_n1l2, l_n1l3, not_true_eq_false, not_false_eq_true, true_implies, false_implies, true_and, and_true, and_self, forall_eq, bI_t, bI_f, Bool.false_eq_true, or_true, true_or, or_false, false_or, s1_ltx, if_true, if_false, Nat.add_zero, Nat.zero_add,  d_leF, d_leT, d_ltF, d_ltT, d_eqF, d_eqT]
  exact h
end RW
theorem p_newRow {I : QI} {post : Int32 → QI → Prop} {R : List (List Int32)} {n w : Nat} (hn : n < 24) (hR : Hd I n R w) (h : R.length < 200 → post (nI R.length) (q_u2 I 25 n (nI (R.length + 1)))) (h2 : R.length = 200 → post N1 I) : wX0_newRow (nI n) I post := by
  have h3 := hR.2.1
  unfold wX0_newRow
  by_cases e : R.length < 200
  · simp (disch := omega) only [hR.1, q_u2_s, ne_u2, nr_u2, fa_lit, nI_ltI, nI_leI, nI_eq, nI_add, pk_mul, nI_clamp, vp_in_nI, l_uk, l_n1, l_n1e, l_n1e2, l_n1l, l_n1l2, l_n1l3, not_true_eq_false, not_false_eq_true, true_implies, false_implies, true_and, and_true, and_self, forall_eq, bI_t, bI_f, Bool.false_eq_true, or_true, true_or, or_false, false_or, s1_ltx, if_true, if_false, Nat.add_zero, Nat.zero_add,  d_leF, d_leT, d_ltF, d_ltT, d_eqF, d_eqT]
    have e9 : nI (R.length + 1) - nI 1 = nI R.length := by rw [pk_sub (by omega)]; rfl
    rw [e9]
    exact h e
  · simp (disch := omega) only [hR.1, q_u2_s, ne_u2, nr_u2, fa_lit, nI_ltI, nI_leI, nI_eq, nI_add, pk_mul, nI_clamp, vp_in_nI, l_uk, l_n1, l_n1e, l_n1e2, l_n1l, l_n1l2, l_n1l3, not_true_eq_false, not_false_eq_true, true_implies, false_implies, true_and, and_true, and_self, forall_eq, bI_t, bI_f, Bool.false_eq_true, or_true, true_or, or_false, false_or, s1_ltx, if_true, if_false, Nat.add_zero, Nat.zero_add,  d_leF, d_leT, d_ltF, d_ltT, d_eqF, d_eqT]
    exact h2 (by omega)
theorem p_put {I : QI} {post : QI → Prop} {n r c : Nat} {x : Int32} (hn : n < 24) (hr : r < 200) (hc : c < 6) (h : post (q_u2 I 24 (n * 1200 + r * 6 + c) x)) : wX0_put (nI n) (nI r) (nI c) x I post := by
  unfold wX0_put
  simp (disch := omega) only [fa_lit, nI_ltI, nI_leI, nI_eq, nI_add, pk_mul, nI_clamp, vp_in_nI, l_uk, l_n1, l_n1e, l_n1e2, l_n1l, l_n1l2, l_n1l3, not_true_eq_false, not_false_eq_true, true_implies, false_implies, true_and, and_true, and_self, forall_eq, bI_t, bI_f, Bool.false_eq_true, or_true, true_or, or_false, false_or, s1_ltx, if_true, if_false, Nat.add_zero, Nat.zero_add,  d_leF, d_leT, d_ltF, d_ltT, d_eqF, d_eqT]
  exact h
theorem N1_neg : N1 < 0 := by decide
theorem p_put_n {I : QI} {post : QI → Prop} {n c : Nat} {x : Int32} (h : post I) : wX0_put (nI n) N1 (nI c) x I post := by
  unfold wX0_put
  exact fun v _ => ⟨fun _ => h, fun e => absurd N1_neg e⟩
/-- k cells written from a base on -/
def Wr (I I2 : QI) (base k : Nat) (g : Nat → Int32) : Prop := (∀ b, b ≠ 24 → I2 b = I b) ∧ (∀ j, j < base ∨ base + k ≤ j → I2 24 j = I 24 j) ∧ ∀ c, c < k → I2 24 (base + c) = g c
theorem Wr.z (I : QI) (base : Nat) (g : Nat → Int32) : Wr I I base 0 g := ⟨fun _ _ => rfl, fun _ _ => rfl, fun c hc => absurd hc (Nat.not_lt_zero c)⟩
theorem Wr.s {I I2 : QI} {base k : Nat} {g : Nat → Int32} (h : Wr I I2 base k g) : Wr I (q_u2 I2 24 (base + k) (g k)) base (k + 1) g := by
  refine ⟨fun b hb => (nr_u2 hb).trans (h.1 b hb), fun j hj => ?_, fun c hc => ?_⟩
  · rw [q_u2_j I2 24 _ (by omega)]
    exact h.2.1 j (by omega)
  · by_cases e : c = k
    · subst e
      exact q_u2_s _ _ _ _
    · rw [q_u2_j I2 24 _ (by omega)]
      exact h.2.2 c (by omega)
theorem p_copyRow_10 {I : QI} {T : QT} {P : List Nd} (hP : Pc I P) (hw : Pw T P) {m s n r w : Nat} {A : List (List Int32)} (hm : m < P.length) (hn : n < 24) (hmn : m ≠ n) (hA : Hd I m A w) (hwm : (nd P m).2.2.2.2.2.2 = w) (hw6 : w ≤ 6) (hs : s < A.length) (hr : r < 200) {K post : Int32 → QI → Prop} (h : ∀ I2, Wr I I2 (n * 1200 + r * 6) w (fun c => (A.getD s []).getD c UK) → K (nI r) I2) : ∃ f, wX0_copyRow_10 (nI n) (nI m) (nI s) K post f (nI r) 0 I := by
  have h24 := hw.1
  refine lp (fun f i (I2 : QI) => wX0_copyRow_10 (nI n) (nI m) (nI s) K post f (nI r) (nI i) I2) (fun i I2 => Wr I I2 (n * 1200 + r * 6) i (fun c => (A.getD s []).getD c UK)) w ?_ ?_ 0 I (Nat.zero_le _) (Wr.z _ _ _)
  · intro f I2 hI
    have hP2 : Pc I2 P := Pc_fr hP (fun b h1 h2 => hI.1 b (by omega))
    show wX0_copyRow_10 _ _ _ _ _ _ _ _ _
    rw [wX0_copyRow_10]
    refine p_widthOf hP2 hw hm ?_
    rw [hwm]
    simp (disch := omega) only [fa_lit, nI_ltI, nI_leI, nI_eq, nI_add, pk_mul, nI_clamp, vp_in_nI, l_uk, l_n1, l_n1e, l_n1e2, l_n1l, l_n1l2, l_n1l3, not_true_eq_false, not_false_eq_true, true_implies, false_implies, true_and, and_true, and_self, forall_eq, bI_t, bI_f, Bool.false_eq_true, or_true, true_or, or_false, false_or, s1_ltx, if_true, if_false, Nat.add_zero, Nat.zero_add,  d_leF, d_leT, d_ltF, d_ltT, d_eqF, d_eqT]
    exact h I2 hI
  · intro f i I2 hi hI hk
    have hP2 : Pc I2 P := Pc_fr hP (fun b h1 h2 => hI.1 b (by omega))
    have hA2 : Hd I2 m A w := by
      refine ⟨by rw [hI.1 25 (by omega)]; exact hA.1, hA.2.1, fun r2 hr2 h2 => ?_⟩
      rw [hA.2.2 r2 hr2 h2]
      refine rowAt_eq.mpr (fun c hc => (hI.2.1 _ ?_).symm)
      rcases Nat.lt_or_gt_of_ne hmn with h3 | h3
      · exact Or.inl (by omega)
      · exact Or.inr (by omega)
    show wX0_copyRow_10 _ _ _ _ _ _ _ _ _
    rw [wX0_copyRow_10]
    refine p_widthOf hP2 hw hm ?_
    rw [hwm]
    simp (disch := omega) only [fa_lit, nI_ltI, nI_leI, nI_eq, nI_add, pk_mul, nI_clamp, vp_in_nI, l_uk, l_n1, l_n1e, l_n1e2, l_n1l, l_n1l2, l_n1l3, not_true_eq_false, not_false_eq_true, true_implies, false_implies, true_and, and_true, and_self, forall_eq, bI_t, bI_f, Bool.false_eq_true, or_true, true_or, or_false, false_or, s1_ltx, if_true, if_false, Nat.add_zero, Nat.zero_add,  d_leF, d_leT, d_ltF, d_ltT, d_eqF, d_eqT]
    refine p_valueAt (by omega) hA2 hs hi hw6 ?_
    refine p_put hn hr (by omega) ?_
    exact hk _ hI.s
theorem p_copyRow_n {I : QI} {T : QT} {P : List Nd} (hP : Pc I P) (hw : Pw T P) {m s n w : Nat} {A : List (List Int32)} (hm : m < P.length) (hA : Hd I m A w) (hwm : (nd P m).2.2.2.2.2.2 = w) (hw6 : w ≤ 6) (hs : s < A.length) {K post : Int32 → QI → Prop} (h : K N1 I) : ∃ f, wX0_copyRow_10 (nI n) (nI m) (nI s) K post f N1 0 I := by
  have h24 := hw.1
  refine lp (fun f i (_ : Unit) => wX0_copyRow_10 (nI n) (nI m) (nI s) K post f N1 (nI i) I) (fun i _ => True) w ?_ ?_ 0 () (Nat.zero_le _) trivial
  · intro f _ hI
    show wX0_copyRow_10 _ _ _ _ _ _ _ _ _
    rw [wX0_copyRow_10]
    refine p_widthOf hP hw hm ?_
    rw [hwm]
    simp (disch := omega) only [fa_lit, nI_ltI, nI_leI, nI_eq, nI_add, pk_mul, nI_clamp, vp_in_nI, l_uk, l_n1, l_n1e, l_n1e2, l_n1l, l_n1l2, l_n1l3, not_true_eq_false, not_false_eq_true, true_implies, false_implies, true_and, and_true, and_self, forall_eq, bI_t, bI_f, Bool.false_eq_true, or_true, true_or, or_false, false_or, s1_ltx, if_true, if_false, Nat.add_zero, Nat.zero_add,  d_leF, d_leT, d_ltF, d_ltT, d_eqF, d_eqT]
    exact h
  · intro f i _ hi hI hk
    show wX0_copyRow_10 _ _ _ _ _ _ _ _ _
    rw [wX0_copyRow_10]
    refine p_widthOf hP hw hm ?_
    rw [hwm]
    simp (disch := omega) only [fa_lit, nI_ltI, nI_leI, nI_eq, nI_add, pk_mul, nI_clamp, vp_in_nI, l_uk, l_n1, l_n1e, l_n1e2, l_n1l, l_n1l2, l_n1l3, not_true_eq_false, not_false_eq_true, true_implies, false_implies, true_and, and_true, and_self, forall_eq, bI_t, bI_f, Bool.false_eq_true, or_true, true_or, or_false, false_or, s1_ltx, if_true, if_false, Nat.add_zero, Nat.zero_add,  d_leF, d_leT, d_ltF, d_ltT, d_eqF, d_eqT]
    refine p_valueAt (by omega) hA hs hi hw6 ?_
    refine p_put_n ?_
    exact hk () trivial
/-- one row more -/
theorem Hd.put {I I2 : QI} {n w : Nat} {R : List (List Int32)} {g : Nat → Int32} (hR : Hd I n R w) (hw : w ≤ 6) (hl : R.length < 200) (h : Wr (q_u2 I 25 n (nI (R.length + 1))) I2 (n * 1200 + R.length * 6) w g) : FA n I I2 ∧ I2 29 = I 29 ∧ Hd I2 n (R ++ [(List.range w).map g]) w := by
  have e0 : R.length * 6 + w ≤ 1200 := by omega
  refine ⟨⟨fun b h1 h2 h3 => (h.1 b h1).trans (nr_u2 h2), fun i hi => ?_, fun m hm => ?_⟩, ?_, ?_, ?_, fun r hr h2 => ?_⟩
  · have e1 : I2 24 i = (q_u2 I 25 n (nI (R.length + 1))) 24 i := by
      refine h.2.1 i ?_
      rcases hi with hi | hi
      · exact Or.inl (Nat.lt_of_lt_of_le hi (Nat.le_add_right _ _))
      · exact Or.inr (Nat.le_trans (by rw [Nat.add_assoc]; exact Nat.add_le_add_left e0 _) hi)
    rw [e1]
    exact ne_u2 (Or.inl (by omega))
  · rw [h.1 25 (by omega)]
    exact q_u2_j _ _ _ hm
  · rw [h.1 29 (by omega)]
    exact nr_u2 (by omega)
  · rw [h.1 25 (by omega), List.length_append]
    exact q_u2_s _ _ _ _
  · rw [List.length_append]
    exact hl
  · rw [List.length_append] at hr
    have hr2 : r < R.length + 1 := hr
    by_cases e : r = R.length
    · subst e
      rw [List.getD_eq_getElem?_getD, List.getElem?_append_right (Nat.le_refl _), Nat.sub_self]
      show (List.range w).map g = rowAt (I2 24) n R.length w
      exact List.map_congr_left (fun c hc => (h.2.2 c (List.mem_range.mp hc)).symm)
    · rw [List.getD_eq_getElem?_getD, List.getElem?_append_left (by omega), ← List.getD_eq_getElem?_getD, hR.2.2 r (by omega) h2]
      refine rowAt_eq.mpr (fun c hc => ?_)
      rw [h.2.1 _ (by omega)]
      exact (congrFun (nr_u2 (by omega)) _).symm
theorem row_map {f : Nat → Int32} {n r w : Nat} {R : List Int32} (h : R = rowAt f n r w) : (List.range w).map (fun c => R.getD c UK) = R := by
  rw [h]
  exact List.map_congr_left (fun c hc => rowAt_get (List.mem_range.mp hc))
theorem p_copyRow {I : QI} {T : QT} {P : List Nd} (hP : Pc I P) (hw : Pw T P) {m s n w : Nat} {A R : List (List Int32)} (hm : m < P.length) (hn : n < 24) (hmn : m ≠ n) (hA : Hd I m A w) (hwm : (nd P m).2.2.2.2.2.2 = w) (hw6 : w ≤ 6) (hs : s < A.length) (hR : Hd I n R w) {post : Int32 → QI → Prop} (h : R.length < 200 → ∀ I2, FA n I I2 → I2 29 = I 29 → Hd I2 n (R ++ [A.getD s []]) w → post (nI 1) I2) (h2 : R.length = 200 → post (nI 0) I) : wX0_copyRow (nI n) (nI m) (nI s) I post := by
  unfold wX0_copyRow
  refine p_newRow hn hR (fun hl => ?_) (fun hl => ?_)
  · have hA2 : Hd (q_u2 I 25 n (nI (R.length + 1))) m A w := ⟨(q_u2_j _ _ _ hmn).trans hA.1, hA.2.1, by rw [nr_u2 (show (24 : Nat) ≠ 25 by omega)]; exact hA.2.2⟩
    refine p_copyRow_10 (Pc_fr hP (fun b h1 h2 => nr_u2 (by omega))) hw hm hn hmn hA2 hwm hw6 hs hl (fun I2 hW => ?_)
    obtain ⟨a, b, c⟩ := hR.put hw6 hl hW
    rw [row_map (hA.2.2 s hs (by have := hA.2.1; omega))] at c
    have := hA.2.1
    simp (disch := omega) only [fa_lit, nI_ltI, nI_leI, nI_eq, nI_add, pk_mul, nI_clamp, vp_in_nI, l_uk, l_n1, l_n1e, l_n1e2, l_n1l, l_n1l2, l_n1l3, not_true_eq_false, not_false_eq_true, true_implies, false_implies, true_and, and_true, and_self, forall_eq, bI_t, bI_f, Bool.false_eq_true, or_true, true_or, or_false, false_or, s1_ltx, if_true, if_false, Nat.add_zero, Nat.zero_add,  d_leF, d_leT, d_ltF, d_ltT, d_eqF, d_eqT]
    exact h hl I2 a b c
  · refine p_copyRow_n hP hw hm hA hwm hw6 hs ?_
    refine ⟨fun _ => h2 hl, fun e => absurd rfl e⟩
