/-! pure: rows put side by side, compared, found, taken away, copied: the class -/
theorem getD_take {L : List (List Int32)} {i : Nat} (h : i < L.length) : L.take (i + 1) = L.take i ++ [L.getD i []] := by
  rw [List.take_succ_eq_append_getElem h, List.getD_eq_getElem?_getD, List.getElem?_eq_getElem h]
  rfl
theorem FA.one {n : Nat} {I I2 : QI} (h : ∀ b, b ≠ 29 → I2 b = I b) : FA n I I2 := ⟨fun b _ _ h3 => h b h3, fun i _ => by rw [h 24 (by omega)], fun m _ => by rw [h 25 (by omega)]⟩
theorem Hd.one {n w : Nat} {I I2 : QI} {R : List (List Int32)} (hR : Hd I n R w) (h : ∀ b, b ≠ 29 → I2 b = I b) : Hd I2 n R w := ⟨by rw [h 25 (by omega)]; exact hR.1, hR.2.1, by rw [h 24 (by omega)]; exact hR.2.2⟩
theorem sbs {A B : List Int32} {wa wb : Nat} {g : Nat → Int32} (hA : A = (List.range wa).map (fun c => A.getD c UK)) (hB : B = (List.range wb).map (fun c => B.getD c UK)) (h1 : ∀ c, c < wa → g c = A.getD c UK) (h2 : ∀ c, c < wb → g (wa + c) = B.getD c UK) : (List.range (wa + wb)).map g = A ++ B := by
  rw [List.range_add, List.map_append, List.map_map]
  congr 1
  · exact (List.map_congr_left (fun c hc => h1 c (List.mem_range.mp hc))).trans hA.symm
  · exact (List.map_congr_left (fun c hc => h2 c (List.mem_range.mp hc))).trans hB.symm
theorem p_areAlike2 {I : QI} {T : QT} {P : List Nd} (hP : Pc I P) (hw : Pw T P) {n m r s w : Nat} {A B : List (List Int32)} (hn : n < P.length) (hm : m < 24) (hA : Hd I n A w) (hB : Hd I m B w) (hwn : (nd P n).2.2.2.2.2.2 = w) (hw6 : w ≤ 6) (hr : r < A.length) (hs : s < B.length) {post : Int32 → Prop} (h : post (bI (decide (A.getD r [] = B.getD s [])))) : wX0_areAlike (nI n) (nI r) (nI m) (nI s) I post := by
  have h24 := hw.1
  have hA2 := hA.2.1
  have hB2 := hB.2.1
  rw [hA.2.2 r hr (by omega), hB.2.2 s hs (by omega)] at h
  unfold wX0_areAlike
  simp (disch := omega) only [fa_lit, nI_ltI, nI_leI, nI_eq, nI_add, pk_mul, nI_clamp, vp_in_nI, l_uk, l_n1, l_n1e, l_n1e2, l_n1l, l_n1l2, l_n1l3, not_true_eq_false, not_false_eq_true, true_implies, false_implies, true_and, and_true, and_self, forall_eq, bI_t, bI_f, Bool.false_eq_true, or_true, true_or, or_false, false_or, s1_ltx, if_true, if_false, Nat.add_zero, Nat.zero_add,  d_leF, d_leT, d_ltF, d_ltT, d_eqF, d_eqT]
  refine p_widthOf hP hw hn ?_
  rw [hwn]
  simp (disch := omega) only [fa_lit, nI_ltI, nI_leI, nI_eq, nI_add, pk_mul, nI_clamp, vp_in_nI, l_uk, l_n1, l_n1e, l_n1e2, l_n1l, l_n1l2, l_n1l3, not_true_eq_false, not_false_eq_true, true_implies, false_implies, true_and, and_true, and_self, forall_eq, bI_t, bI_f, Bool.false_eq_true, or_true, true_or, or_false, false_or, s1_ltx, if_true, if_false, Nat.add_zero, Nat.zero_add,  d_leF, d_leT, d_ltF, d_ltT, d_eqF, d_eqT]
  suffices hh : ∃ f, wX0_areAlike_38 (nI n) (nI r) (nI m) (nI s) I post f (nI (n * 1200 + r * 6 + 0)) (nI (m * 1200 + s * 6 + 0)) (nI (n * 1200 + r * 6 + w)) by
    rw [Nat.add_zero, Nat.add_zero] at hh
    exact hh
  refine lp (fun f i (_ : Unit) => wX0_areAlike_38 (nI n) (nI r) (nI m) (nI s) I post f (nI (n * 1200 + r * 6 + i)) (nI (m * 1200 + s * 6 + i)) (nI (n * 1200 + r * 6 + w))) (fun i _ => ∀ c, c < i → I 24 (n * 1200 + r * 6 + c) = I 24 (m * 1200 + s * 6 + c)) w ?_ ?_ 0 () (Nat.zero_le _) (fun c hc => absurd hc (Nat.not_lt_zero c))
  · intro f _ hI
    rw [decide_eq_true (rowAt_eq.mpr hI)] at h
    show wX0_areAlike_38 _ _ _ _ _ _ _ _ _ _
    rw [wX0_areAlike_38]
    simp (disch := omega) only [fa_lit, nI_ltI, nI_leI, nI_eq, nI_add, pk_mul, nI_clamp, vp_in_nI, l_uk, l_n1, l_n1e, l_n1e2, l_n1l, l_n1l2, l_n1l3, not_true_eq_false, not_false_eq_true, true_implies, false_implies, true_and, and_true, and_self, forall_eq, bI_t, bI_f, Bool.false_eq_true, or_true, true_or, or_false, false_or, s1_ltx, if_true, if_false, Nat.add_zero, Nat.zero_add,  d_leF, d_leT, d_ltF, d_ltT, d_eqF, d_eqT]
    exact h
  · intro f i _ hi hI hk
    show wX0_areAlike_38 _ _ _ _ _ _ _ _ _ _
    rw [wX0_areAlike_38]
    simp (disch := omega) only [fa_lit, nI_ltI, nI_leI, nI_eq, nI_add, pk_mul, nI_clamp, vp_in_nI, l_uk, l_n1, l_n1e, l_n1e2, l_n1l, l_n1l2, l_n1l3, not_true_eq_false, not_false_eq_true, true_implies, false_implies, true_and, and_true, and_self, forall_eq, bI_t, bI_f, Bool.false_eq_true, or_true, true_or, or_false, false_or, s1_ltx, if_true, if_false, Nat.add_zero, Nat.zero_add,  d_leF, d_leT, d_ltF, d_ltT, d_eqF, d_eqT]
    refine ⟨fun e => ?_, fun e => ?_⟩
    · rw [Nat.add_assoc (n * 1200 + r * 6), Nat.add_assoc (m * 1200 + s * 6)]
      refine hk () (fun c hc => ?_)
      by_cases e2 : c = i
      · subst e2; exact e
      · exact hI c (by omega)
    · rw [decide_eq_false (fun z => e (rowAt_eq.mp z i hi))] at h
      exact h
def frw (L : List (List Int32)) (c : Nat) (x : Int32) : Option Nat := srch (fun r => decide ((L.getD r []).getD c UK = x)) L.length
theorem p_findRow {I : QI} {n c w : Nat} {L : List (List Int32)} {x : Int32} (hn : n < 24) (hL : Hd I n L w) (hc : c < w) (hw6 : w ≤ 6) {post : Int32 → Prop} (h1 : ∀ i, i < L.length → frw L c x = some i → post (nI i)) (h2 : frw L c x = none → post N1) : wX0_findRow (nI n) (nI c) x I post := by
  have hL2 := hL.2.1
  unfold wX0_findRow
  refine p_countOf hn ?_
  rw [hL.1]
  simp (disch := omega) only [fa_lit, nI_ltI, nI_leI, nI_eq, nI_add, pk_mul, nI_clamp, vp_in_nI, l_uk, l_n1, l_n1e, l_n1e2, l_n1l, l_n1l2, l_n1l3, not_true_eq_false, not_false_eq_true, true_implies, false_implies, true_and, and_true, and_self, forall_eq, bI_t, bI_f, Bool.false_eq_true, or_true, true_or, or_false, false_or, s1_ltx, if_true, if_false, Nat.add_zero, Nat.zero_add,  d_leF, d_leT, d_ltF, d_ltT, d_eqF, d_eqT]
  suffices hh : ∃ f, wX0_findRow_19 (nI n) (nI c) x I post f (nI L.length) (nI (n * 1200 + c + 6 * 0)) (nI 0) by
    rw [Nat.mul_zero, Nat.add_zero] at hh
    exact hh
  refine lp (fun f i (_ : Unit) => wX0_findRow_19 (nI n) (nI c) x I post f (nI L.length) (nI (n * 1200 + c + 6 * i)) (nI i)) (fun i _ => ∀ r, r < i → (L.getD r []).getD c UK ≠ x) L.length ?_ ?_ 0 () (Nat.zero_le _) (fun c hc => absurd hc (Nat.not_lt_zero c))
  · intro f _ hI
    have e := h2 (srch_n (fun k hk => decide_eq_false (hI k hk)))
    show wX0_findRow_19 _ _ _ _ _ _ _ _ _
    rw [wX0_findRow_19]
    simp (disch := omega) only [fa_lit, nI_ltI, nI_leI, nI_eq, nI_add, pk_mul, nI_clamp, vp_in_nI, l_uk, l_n1, l_n1e, l_n1e2, l_n1l, l_n1l2, l_n1l3, not_true_eq_false, not_false_eq_true, true_implies, false_implies, true_and, and_true, and_self, forall_eq, bI_t, bI_f, Bool.false_eq_true, or_true, true_or, or_false, false_or, s1_ltx, if_true, if_false, Nat.add_zero, Nat.zero_add,  d_leF, d_leT, d_ltF, d_ltT, d_eqF, d_eqT]
    exact e
  · intro f i _ hi hI hk
    have e0 : (L.getD i []).getD c UK = I 24 (n * 1200 + c + 6 * i) := by
      rw [hL.2.2 i hi (by omega), rowAt_get hc]
      congr 1
      omega
    show wX0_findRow_19 _ _ _ _ _ _ _ _ _
    rw [wX0_findRow_19]
    simp (disch := omega) only [fa_lit, nI_ltI, nI_leI, nI_eq, nI_add, pk_mul, nI_clamp, vp_in_nI, l_uk, l_n1, l_n1e, l_n1e2, l_n1l, l_n1l2, l_n1l3, not_true_eq_false, not_false_eq_true, true_implies, false_implies, true_and, and_true, and_self, forall_eq, bI_t, bI_f, Bool.false_eq_true, or_true, true_or, or_false, false_or, s1_ltx, if_true, if_false, Nat.add_zero, Nat.zero_add,  d_leF, d_leT, d_ltF, d_ltT, d_eqF, d_eqT]
    rw [← e0]
    refine ⟨fun e => ?_, fun e => ?_⟩
    · have e9 : n * 1200 + c + 6 * i + 6 = n * 1200 + c + 6 * (i + 1) := by omega
      rw [e9]
      refine hk () (fun r hr => ?_)
      by_cases e2 : r = i
      · subst e2; exact e
      · exact hI r (by omega)
    · exact h1 i hi (srch_i (decide_eq_true e) (fun k hk2 => decide_eq_false (hI k hk2)) hi)
theorem p_clearGone {I : QI} {post : QI → Prop} (h : ∀ I2, (∀ b, b ≠ 29 → I2 b = I b) → (∀ k, k < 200 → I2 29 k = bI false) → post I2) : wX0_clearGone I post := by
  unfold wX0_clearGone
  refine lp (fun f i (I2 : QI) => wX0_clearGone_2 post f (nI i) I2) (fun i I2 => (∀ b, b ≠ 29 → I2 b = I b) ∧ ∀ k, k < i → I2 29 k = bI false) 200 ?_ ?_ 0 I (Nat.zero_le _) ⟨fun _ _ => rfl, fun c hc => absurd hc (Nat.not_lt_zero c)⟩
  · rintro f I2 ⟨hF, hG⟩
    show wX0_clearGone_2 _ _ _ _
    rw [wX0_clearGone_2]
    simp (disch := omega) only [fa_lit, nI_ltI, nI_leI, nI_eq, nI_add, pk_mul, nI_clamp, vp_in_nI, l_uk, l_n1, l_n1e, l_n1e2, l_n1l, l_n1l2, l_n1l3, not_true_eq_false, not_false_eq_true, true_implies, false_implies, true_and, and_true, and_self, forall_eq, bI_t, bI_f, Bool.false_eq_true, or_true, true_or, or_false, false_or, s1_ltx, if_true, if_false, Nat.add_zero, Nat.zero_add,  d_leF, d_leT, d_ltF, d_ltT, d_eqF, d_eqT]
    exact h I2 hF hG
  · rintro f i I2 hi ⟨hF, hG⟩ hk
    show wX0_clearGone_2 _ _ _ _
    rw [wX0_clearGone_2]
    simp (disch := omega) only [fa_lit, nI_ltI, nI_leI, nI_eq, nI_add, pk_mul, nI_clamp, vp_in_nI, l_uk, l_n1, l_n1e, l_n1e2, l_n1l, l_n1l2, l_n1l3, not_true_eq_false, not_false_eq_true, true_implies, false_implies, true_and, and_true, and_self, forall_eq, bI_t, bI_f, Bool.false_eq_true, or_true, true_or, or_false, false_or, s1_ltx, if_true, if_false, Nat.add_zero, Nat.zero_add,  d_leF, d_leT, d_ltF, d_ltT, d_eqF, d_eqT]
    refine hk _ ⟨fr_u2 hF, fun k hk2 => ?_⟩
    by_cases e : k = i
    · subst e
      exact q_u2_s _ _ _ _
    · rw [q_u2_j I2 29 _ e]
      exact hG k (by omega)
def tkA (A : List (List Int32)) (x : List Int32) (G : Nat → Bool) : Option Nat := srch (fun r => !G r && decide (A.getD r [] = x)) A.length
theorem p_takeAway {I : QI} {T : QT} {P : List Nd} (hP : Pc I P) (hw : Pw T P) {n m s w : Nat} {A B : List (List Int32)} (hn : n < P.length) (hm : m < 24) (hA : Hd I n A w) (hB : Hd I m B w) (hwn : (nd P n).2.2.2.2.2.2 = w) (hw6 : w ≤ 6) (hs : s < B.length) {G : Nat → Bool} (hG : ∀ k, k < 200 → I 29 k = bI (G k)) {post : Int32 → QI → Prop} (h1 : ∀ i, i < A.length → tkA A (B.getD s []) G = some i → post (nI 1) (q_u2 I 29 i (bI true))) (h2 : tkA A (B.getD s []) G = none → post (nI 0) I) : wX0_takeAway (nI n) (nI m) (nI s) I post := by
  have h24 := hw.1
  have hA2 := hA.2.1
  unfold wX0_takeAway
  refine p_countOf (by omega) ?_
  rw [hA.1]
  simp (disch := omega) only [fa_lit, nI_ltI, nI_leI, nI_eq, nI_add, pk_mul, nI_clamp, vp_in_nI, l_uk, l_n1, l_n1e, l_n1e2, l_n1l, l_n1l2, l_n1l3, not_true_eq_false, not_false_eq_true, true_implies, false_implies, true_and, and_true, and_self, forall_eq, bI_t, bI_f, Bool.false_eq_true, or_true, true_or, or_false, false_or, s1_ltx, if_true, if_false, Nat.add_zero, Nat.zero_add,  d_leF, d_leT, d_ltF, d_ltT, d_eqF, d_eqT]
  refine lp (fun f i (_ : Unit) => wX0_takeAway_10 (nI n) (nI m) (nI s) (fun u5 I6 => (vp_in u5 200 ∧ post (nI 1) (q_u2 I6 29 (u5).toNatClampNeg (nI 1)))) post f (nI A.length) (nI i) I) (fun i _ => ∀ r, r < i → (!G r && decide (A.getD r [] = B.getD s [])) = false) A.length ?_ ?_ 0 () (Nat.zero_le _) (fun c hc => absurd hc (Nat.not_lt_zero c))
  · intro f _ hI
    have e := h2 (srch_n hI)
    show wX0_takeAway_10 _ _ _ _ _ _ _ _ _
    rw [wX0_takeAway_10]
    simp (disch := omega) only [fa_lit, nI_ltI, nI_leI, nI_eq, nI_add, pk_mul, nI_clamp, vp_in_nI, l_uk, l_n1, l_n1e, l_n1e2, l_n1l, l_n1l2, l_n1l3, not_true_eq_false, not_false_eq_true, true_implies, false_implies, true_and, and_true, and_self, forall_eq, bI_t, bI_f, Bool.false_eq_true, or_true, true_or, or_false, false_or, s1_ltx, if_true, if_false, Nat.add_zero, Nat.zero_add,  d_leF, d_leT, d_ltF, d_ltT, d_eqF, d_eqT]
    exact e
  · intro f i _ hi hI hk
    have hno : (!G i && decide (A.getD i [] = B.getD s [])) = false → wX0_takeAway_10 (nI n) (nI m) (nI s) (fun u5 I6 => (vp_in u5 200 ∧ post (nI 1) (q_u2 I6 29 (u5).toNatClampNeg (nI 1)))) post f (nI A.length) (nI (i + 1)) I := fun e => hk () (fun r hr => by
      by_cases e2 : r = i
      · subst e2; exact e
      · exact hI r (by omega))
    show wX0_takeAway_10 _ _ _ _ _ _ _ _ _
    rw [wX0_takeAway_10]
    simp (disch := omega) only [fa_lit, nI_ltI, nI_leI, nI_eq, nI_add, pk_mul, nI_clamp, vp_in_nI, l_uk, l_n1, l_n1e, l_n1e2, l_n1l, l_n1l2, l_n1l3, not_true_eq_false, not_false_eq_true, true_implies, false_implies, true_and, and_true, and_self, forall_eq, bI_t, bI_f, Bool.false_eq_true, or_true, true_or, or_false, false_or, s1_ltx, if_true, if_false, Nat.add_zero, Nat.zero_add,  d_leF, d_leT, d_ltF, d_ltT, d_eqF, d_eqT]
    rw [hG i (by omega)]
    cases e : G i
    · rw [e] at hno
      simp (disch := omega) only [fa_lit, nI_ltI, nI_leI, nI_eq, nI_add, pk_mul, nI_clamp, vp_in_nI, l_uk, l_n1, l_n1e, l_n1e2, l_n1l, l_n1l2, l_n1l3, not_true_eq_false, not_false_eq_true, true_implies, false_implies, true_and, and_true, and_self, forall_eq, bI_t, bI_f, Bool.false_eq_true, or_true, true_or, or_false, false_or, s1_ltx, if_true, if_false, Nat.add_zero, Nat.zero_add,  d_leF, d_leT, d_ltF, d_ltT, d_eqF, d_eqT]
      refine p_areAlike2 hP hw hn hm hA hB hwn hw6 hi hs ?_
      cases e2 : decide (A.getD i [] = B.getD s [])
      · rw [e2] at hno
        simp (disch := omega) only [fa_lit, nI_ltI, nI_leI, nI_eq, nI_add, pk_mul, nI_clamp, vp_in_nI, l_uk, l_n1, l_n1e, l_n1e2, l_n1l, l_n1l2, l_n1l3, not_true_eq_false, not_false_eq_true, true_implies, false_implies, true_and, and_true, and_self, forall_eq, bI_t, bI_f, Bool.false_eq_true, or_true, true_or, or_false, false_or, s1_ltx, if_true, if_false, Nat.add_zero, Nat.zero_add,  d_leF, d_leT, d_ltF, d_ltT, d_eqF, d_eqT]
        exact hno rfl
      · have e3 := h1 i hi (srch_i (by rw [e, e2]; rfl) hI hi)
        simp (disch := omega) only [fa_lit, nI_ltI, nI_leI, nI_eq, nI_add, pk_mul, nI_clamp, vp_in_nI, l_uk, l_n1, l_n1e, l_n1e2, l_n1l, l_n1l2, l_n1l3, not_true_eq_false, not_false_eq_true, true_implies, false_implies, true_and, and_true, and_self, forall_eq, bI_t, bI_f, Bool.false_eq_true, or_true, true_or, or_false, false_or, s1_ltx, if_true, if_false, Nat.add_zero, Nat.zero_add,  d_leF, d_leT, d_ltF, d_ltT, d_eqF, d_eqT]
        exact e3
    · rw [e] at hno
      simp (disch := omega) only [fa_lit, nI_ltI, nI_leI, nI_eq, nI_add, pk_mul, nI_clamp, vp_in_nI, l_uk, l_n1, l_n1e, l_n1e2, l_n1l, l_n1l2, l_n1l3, not_true_eq_false, not_false_eq_true, true_implies, false_implies, true_and, and_true, and_self, forall_eq, bI_t, bI_f, Bool.false_eq_true, or_true, true_or, or_false, false_or, s1_ltx, if_true, if_false, Nat.add_zero, Nat.zero_add,  d_leF, d_leT, d_ltF, d_ltT, d_eqF, d_eqT]
      exact hno rfl
theorem p_hasRowOf {I : QI} {T : QT} {P : List Nd} (hP : Pc I P) (hw : Pw T P) {n m s w : Nat} {A B : List (List Int32)} (hn : n < P.length) (hm : m < 24) (hA : Hd I n A w) (hB : Hd I m B w) (hwn : (nd P n).2.2.2.2.2.2 = w) (hw6 : w ≤ 6) (hs : s < B.length) {post : Int32 → Prop} (h : post (bI (decide (B.getD s [] ∈ A)))) : wX0_hasRowOf (nI n) (nI m) (nI s) I post := by
  have h24 := hw.1
  have hA2 := hA.2.1
  unfold wX0_hasRowOf
  refine p_countOf (by omega) ?_
  rw [hA.1]
  refine lp (fun f i (_ : Unit) => wX0_hasRowOf_10 (nI n) (nI m) (nI s) I post f (nI A.length) (nI i)) (fun i _ => ∀ r, r < i → A.getD r [] ≠ B.getD s []) A.length ?_ ?_ 0 () (Nat.zero_le _) (fun c hc => absurd hc (Nat.not_lt_zero c))
  · intro f _ hI
    have e : ¬ B.getD s [] ∈ A := by
      intro hm2
      obtain ⟨k, hk, e⟩ := List.mem_iff_getElem.mp hm2
      refine hI k hk ?_
      rw [List.getD_eq_getElem?_getD, List.getElem?_eq_getElem hk]
      exact e
    rw [decide_eq_false e] at h
    show wX0_hasRowOf_10 _ _ _ _ _ _ _ _
    rw [wX0_hasRowOf_10]
    simp (disch := omega) only [fa_lit, nI_ltI, nI_leI, nI_eq, nI_add, pk_mul, nI_clamp, vp_in_nI, l_uk, l_n1, l_n1e, l_n1e2, l_n1l, l_n1l2, l_n1l3, not_true_eq_false, not_false_eq_true, true_implies, false_implies, true_and, and_true, and_self, forall_eq, bI_t, bI_f, Bool.false_eq_true, or_true, true_or, or_false, false_or, s1_ltx, if_true, if_false, Nat.add_zero, Nat.zero_add,  d_leF, d_leT, d_ltF, d_ltT, d_eqF, d_eqT]
    exact h
  · intro f i _ hi hI hk
    show wX0_hasRowOf_10 _ _ _ _ _ _ _ _
    rw [wX0_hasRowOf_10]
    simp (disch := omega) only [fa_lit, nI_ltI, nI_leI, nI_eq, nI_add, pk_mul, nI_clamp, vp_in_nI, l_uk, l_n1, l_n1e, l_n1e2, l_n1l, l_n1l2, l_n1l3, not_true_eq_false, not_false_eq_true, true_implies, false_implies, true_and, and_true, and_self, forall_eq, bI_t, bI_f, Bool.false_eq_true, or_true, true_or, or_false, false_or, s1_ltx, if_true, if_false, Nat.add_zero, Nat.zero_add,  d_leF, d_leT, d_ltF, d_ltT, d_eqF, d_eqT]
    refine p_areAlike2 hP hw hn hm hA hB hwn hw6 hi hs ?_
    by_cases e : A.getD i [] = B.getD s []
    · have e2 : B.getD s [] ∈ A := by
        rw [← e, List.getD_eq_getElem?_getD, List.getElem?_eq_getElem hi]
        exact List.getElem_mem hi
      rw [decide_eq_true e2] at h
      rw [decide_eq_true e]
      simp (disch := omega) only [fa_lit, nI_ltI, nI_leI, nI_eq, nI_add, pk_mul, nI_clamp, vp_in_nI, l_uk, l_n1, l_n1e, l_n1e2, l_n1l, l_n1l2, l_n1l3, not_true_eq_false, not_false_eq_true, true_implies, false_implies, true_and, and_true, and_self, forall_eq, bI_t, bI_f, Bool.false_eq_true, or_true, true_or, or_false, false_or, s1_ltx, if_true, if_false, Nat.add_zero, Nat.zero_add,  d_leF, d_leT, d_ltF, d_ltT, d_eqF, d_eqT]
      exact h
    · rw [decide_eq_false e]
      simp (disch := omega) only [fa_lit, nI_ltI, nI_leI, nI_eq, nI_add, pk_mul, nI_clamp, vp_in_nI, l_uk, l_n1, l_n1e, l_n1e2, l_n1l, l_n1l2, l_n1l3, not_true_eq_false, not_false_eq_true, true_implies, false_implies, true_and, and_true, and_self, forall_eq, bI_t, bI_f, Bool.false_eq_true, or_true, true_or, or_false, false_or, s1_ltx, if_true, if_false, Nat.add_zero, Nat.zero_add,  d_leF, d_leT, d_ltF, d_ltT, d_eqF, d_eqT]
      refine hk () (fun r hr => ?_)
      by_cases e2 : r = i
      · subst e2; exact e
      · exact hI r (by omega)
theorem p_copyAll {I : QI} {T : QT} {P : List Nd} (hP : Pc I P) (hw : Pw T P) {m n w : Nat} {A R : List (List Int32)} (hm : m < P.length) (hn : n < 24) (hmn : m ≠ n) (hA : Hd I m A w) (hwm : (nd P m).2.2.2.2.2.2 = w) (hw6 : w ≤ 6) (hR : Hd I n R w) {post : Int32 → QI → Prop} (h : ∀ I2, FA n I I2 → Hd I2 n (R ++ A) w → post (nI 1) I2) (h2 : 200 < R.length + A.length → ∀ I2, FA n I I2 → post (nI 0) I2) : wX0_copyAll (nI n) (nI m) I post := by
  have h24 := hw.1
  have hA2 := hA.2.1
  unfold wX0_copyAll
  refine lp (fun f i (I2 : QI) => wX0_copyAll_2 (nI n) (nI m) post f (nI i) I2) (fun i I2 => FA n I I2 ∧ Hd I2 n (R ++ A.take i) w) A.length ?_ ?_ 0 I (Nat.zero_le _) ⟨FA.rf _ _, by rw [List.take_zero, List.append_nil]; exact hR⟩
  · rintro f I2 ⟨hF, hH⟩
    rw [List.take_length] at hH
    show wX0_copyAll_2 _ _ _ _ _ _
    rw [wX0_copyAll_2]
    refine p_countOf (by omega) ?_
    rw [(hA.fa hF hmn hw6).1]
    simp (disch := omega) only [fa_lit, nI_ltI, nI_leI, nI_eq, nI_add, pk_mul, nI_clamp, vp_in_nI, l_uk, l_n1, l_n1e, l_n1e2, l_n1l, l_n1l2, l_n1l3, not_true_eq_false, not_false_eq_true, true_implies, false_implies, true_and, and_true, and_self, forall_eq, bI_t, bI_f, Bool.false_eq_true, or_true, true_or, or_false, false_or, s1_ltx, if_true, if_false, Nat.add_zero, Nat.zero_add,  d_leF, d_leT, d_ltF, d_ltT, d_eqF, d_eqT]
    exact h I2 hF hH
  · rintro f i I2 hi ⟨hF, hH⟩ hk
    show wX0_copyAll_2 _ _ _ _ _ _
    rw [wX0_copyAll_2]
    refine p_countOf (by omega) ?_
    rw [(hA.fa hF hmn hw6).1]
    simp (disch := omega) only [fa_lit, nI_ltI, nI_leI, nI_eq, nI_add, pk_mul, nI_clamp, vp_in_nI, l_uk, l_n1, l_n1e, l_n1e2, l_n1l, l_n1l2, l_n1l3, not_true_eq_false, not_false_eq_true, true_implies, false_implies, true_and, and_true, and_self, forall_eq, bI_t, bI_f, Bool.false_eq_true, or_true, true_or, or_false, false_or, s1_ltx, if_true, if_false, Nat.add_zero, Nat.zero_add,  d_leF, d_leT, d_ltF, d_ltT, d_eqF, d_eqT]
    refine p_copyRow (hF.pc hP) hw hm hn hmn (hA.fa hF hmn hw6) hwm hw6 hi hH (fun _ I3 hF3 _ hH3 => ?_) (fun hl => ?_)
    · simp (disch := omega) only [fa_lit, nI_ltI, nI_leI, nI_eq, nI_add, pk_mul, nI_clamp, vp_in_nI, l_uk, l_n1, l_n1e, l_n1e2, l_n1l, l_n1l2, l_n1l3, not_true_eq_false, not_false_eq_true, true_implies, false_implies, true_and, and_true, and_self, forall_eq, bI_t, bI_f, Bool.false_eq_true, or_true, true_or, or_false, false_or, s1_ltx, if_true, if_false, Nat.add_zero, Nat.zero_add,  d_leF, d_leT, d_ltF, d_ltT, d_eqF, d_eqT]
      refine hk I3 ⟨hF.tr hF3, ?_⟩
      rw [getD_take hi, ← List.append_assoc]
      exact hH3
    · simp (disch := omega) only [fa_lit, nI_ltI, nI_leI, nI_eq, nI_add, pk_mul, nI_clamp, vp_in_nI, l_uk, l_n1, l_n1e, l_n1e2, l_n1l, l_n1l2, l_n1l3, not_true_eq_false, not_false_eq_true, true_implies, false_implies, true_and, and_true, and_self, forall_eq, bI_t, bI_f, Bool.false_eq_true, or_true, true_or, or_false, false_or, s1_ltx, if_true, if_false, Nat.add_zero, Nat.zero_add,  d_leF, d_leT, d_ltF, d_ltT, d_eqF, d_eqT]
      rw [List.length_append, List.length_take] at hl
      exact h2 (by omega) I2 hF
def ddN (R A : List (List Int32)) : Nat → List (List Int32)
  | 0 => R
  | i + 1 => if A.getD i [] ∈ ddN R A i then ddN R A i else ddN R A i ++ [A.getD i []]
theorem ddN_mono {R A : List (List Int32)} (i : Nat) : ∀ d, (ddN R A i).length ≤ (ddN R A (i + d)).length
  | 0 => Nat.le_refl _
  | d + 1 => by
    refine Nat.le_trans (ddN_mono i d) ?_
    rw [← Nat.add_assoc, ddN]
    split
    · exact Nat.le_refl _
    · rw [List.length_append]
      omega
theorem p_copyNew {I : QI} {T : QT} {P : List Nd} (hP : Pc I P) (hw : Pw T P) {m n w : Nat} {A R : List (List Int32)} (hm : m < P.length) (hn : n < P.length) (hmn : m ≠ n) (hA : Hd I m A w) (hwm : (nd P m).2.2.2.2.2.2 = w) (hwn : (nd P n).2.2.2.2.2.2 = w) (hw6 : w ≤ 6) (hR : Hd I n R w) {post : Int32 → QI → Prop} (h : ∀ I2, FA n I I2 → Hd I2 n (ddN R A A.length) w → post (nI 1) I2) (h2 : 200 < (ddN R A A.length).length → ∀ I2, FA n I I2 → post (nI 0) I2) : wX0_copyNew (nI n) (nI m) I post := by
  have h24 := hw.1
  have hA2 := hA.2.1
  unfold wX0_copyNew
  refine lp (fun f i (I2 : QI) => wX0_copyNew_2 (nI n) (nI m) post f (nI i) I2) (fun i I2 => FA n I I2 ∧ Hd I2 n (ddN R A i) w) A.length ?_ ?_ 0 I (Nat.zero_le _) ⟨FA.rf _ _, hR⟩
  · rintro f I2 ⟨hF, hH⟩
    show wX0_copyNew_2 _ _ _ _ _ _
    rw [wX0_copyNew_2]
    refine p_countOf (by omega) ?_
    rw [(hA.fa hF hmn hw6).1]
    simp (disch := omega) only [fa_lit, nI_ltI, nI_leI, nI_eq, nI_add, pk_mul, nI_clamp, vp_in_nI, l_uk, l_n1, l_n1e, l_n1e2, l_n1l, l_n1l2, l_n1l3, not_true_eq_false, not_false_eq_true, true_implies, false_implies, true_and, and_true, and_self, forall_eq, bI_t, bI_f, Bool.false_eq_true, or_true, true_or, or_false, false_or, s1_ltx, if_true, if_false, Nat.add_zero, Nat.zero_add,  d_leF, d_leT, d_ltF, d_ltT, d_eqF, d_eqT]
    exact h I2 hF hH
  · rintro f i I2 hi ⟨hF, hH⟩ hk
    show wX0_copyNew_2 _ _ _ _ _ _
    rw [wX0_copyNew_2]
    refine p_countOf (by omega) ?_
    rw [(hA.fa hF hmn hw6).1]
    simp (disch := omega) only [fa_lit, nI_ltI, nI_leI, nI_eq, nI_add, pk_mul, nI_clamp, vp_in_nI, l_uk, l_n1, l_n1e, l_n1e2, l_n1l, l_n1l2, l_n1l3, not_true_eq_false, not_false_eq_true, true_implies, false_implies, true_and, and_true, and_self, forall_eq, bI_t, bI_f, Bool.false_eq_true, or_true, true_or, or_false, false_or, s1_ltx, if_true, if_false, Nat.add_zero, Nat.zero_add,  d_leF, d_leT, d_ltF, d_ltT, d_eqF, d_eqT]
    refine p_hasRowOf (hF.pc hP) hw hn (by omega) hH (hA.fa hF hmn hw6) hwn hw6 hi ?_
    by_cases e : A.getD i [] ∈ ddN R A i
    · rw [decide_eq_true e]
      simp (disch := omega) only [fa_lit, nI_ltI, nI_leI, nI_eq, nI_add, pk_mul, nI_clamp, vp_in_nI, l_uk, l_n1, l_n1e, l_n1e2, l_n1l, l_n1l2, l_n1l3, not_true_eq_false, not_false_eq_true, true_implies, false_implies, true_and, and_true, and_self, forall_eq, bI_t, bI_f, Bool.false_eq_true, or_true, true_or, or_false, false_or, s1_ltx, if_true, if_false, Nat.add_zero, Nat.zero_add,  d_leF, d_leT, d_ltF, d_ltT, d_eqF, d_eqT]
      refine hk I2 ⟨hF, ?_⟩
      rw [ddN, if_pos e]
      exact hH
    · rw [decide_eq_false e]
      simp (disch := omega) only [fa_lit, nI_ltI, nI_leI, nI_eq, nI_add, pk_mul, nI_clamp, vp_in_nI, l_uk, l_n1, l_n1e, l_n1e2, l_n1l, l_n1l2, l_n1l3, not_true_eq_false, not_false_eq_true, true_implies, false_implies, true_and, and_true, and_self, forall_eq, bI_t, bI_f, Bool.false_eq_true, or_true, true_or, or_false, false_or, s1_ltx, if_true, if_false, Nat.add_zero, Nat.zero_add,  d_leF, d_leT, d_ltF, d_ltT, d_eqF, d_eqT]
      refine p_copyRow (hF.pc hP) hw hm (by omega) hmn (hA.fa hF hmn hw6) hwm hw6 hi hH (fun _ I3 hF3 _ hH3 => ?_) (fun hl => ?_)
      · simp (disch := omega) only [fa_lit, nI_ltI, nI_leI, nI_eq, nI_add, pk_mul, nI_clamp, vp_in_nI, l_uk, l_n1, l_n1e, l_n1e2, l_n1l, l_n1l2, l_n1l3, not_true_eq_false, not_false_eq_true, true_implies, false_implies, true_and, and_true, and_self, forall_eq, bI_t, bI_f, Bool.false_eq_true, or_true, true_or, or_false, false_or, s1_ltx, if_true, if_false, Nat.add_zero, Nat.zero_add,  d_leF, d_leT, d_ltF, d_ltT, d_eqF, d_eqT]
        refine hk I3 ⟨hF.tr hF3, ?_⟩
        rw [ddN, if_neg e]
        exact hH3
      · simp (disch := omega) only [fa_lit, nI_ltI, nI_leI, nI_eq, nI_add, pk_mul, nI_clamp, vp_in_nI, l_uk, l_n1, l_n1e, l_n1e2, l_n1l, l_n1l2, l_n1l3, not_true_eq_false, not_false_eq_true, true_implies, false_implies, true_and, and_true, and_self, forall_eq, bI_t, bI_f, Bool.false_eq_true, or_true, true_or, or_false, false_or, s1_ltx, if_true, if_false, Nat.add_zero, Nat.zero_add,  d_leF, d_leT, d_ltF, d_ltT, d_eqF, d_eqT]
        refine h2 ?_ I2 hF
        have e9 := ddN_mono (R := R) (A := A) (i + 1) (A.length - (i + 1))
        rw [show i + 1 + (A.length - (i + 1)) = A.length by omega, ddN, if_neg e, List.length_append] at e9
        have e8 : (ddN R A i).length + 1 ≤ (ddN R A A.length).length := e9
        omega
