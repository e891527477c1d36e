/-! pure: what a node's rows are; the class fills a node -/
def tkm (A B : List (List Int32)) : Nat → Nat → Bool
  | 0 => fun _ => false
  | j + 1 => match tkA A (B.getD j []) (tkm A B j) with
    | some i => fun k => if k = i then true else tkm A B j k
    | none => tkm A B j
def kp (A : List (List Int32)) (G : Nat → Bool) (tk : Bool) : Nat → List (List Int32)
  | 0 => []
  | i + 1 => if G i = tk then kp A G tk i ++ [A.getD i []] else kp A G tk i
theorem kp_le (A : List (List Int32)) (G : Nat → Bool) (tk : Bool) : ∀ i, (kp A G tk i).length ≤ i
  | 0 => Nat.le_refl 0
  | i + 1 => by
    have := kp_le A G tk i
    rw [kp]
    split
    · rw [List.length_append]
      show _ + 1 ≤ _
      omega
    · omega
theorem p_copyTaken {I : QI} {T : QT} {P : List Nd} (hP : Pc I P) (hw : Pw T P) {n w : Nat} {A B : List (List Int32)} {tk : Bool} (hn : n < P.length) (ha : (nd P n).2.1 < n) (hb0 : (nd P n).2.2.1 ≠ 0) (hb : (nd P n).2.2.1 - 1 < n) (hA : Hd I (nd P n).2.1 A w) (hB : Hd I ((nd P n).2.2.1 - 1) B w) (hwa : (nd P (nd P n).2.1).2.2.2.2.2.2 = w) (hwn : (nd P n).2.2.2.2.2.2 = w) (hw6 : w ≤ 6) (hR : Hd I n [] w) {post : Int32 → QI → Prop} (h : ∀ I2, FA n I I2 → Hd I2 n (kp A (tkm A B B.length) tk A.length) w → post (nI 1) I2) : wX0_copyTaken (nI n) (bI tk) I post := by
  have h24 := hw.1
  have hA2 := hA.2.1
  have hB2 := hB.2.1
  unfold wX0_copyTaken
  refine p_firstOf hP hw hn (p_secondOf hP hw hn ?_)
  have e9 : sB (nd P n).2.2.1 = nI ((nd P n).2.2.1 - 1) := if_neg hb0
  rw [e9]
  generalize hea : (nd P n).2.1 = a at *
  generalize heb : (nd P n).2.2.1 - 1 = b at *
  refine p_clearGone (fun I2 hF hG => ?_)
  refine lp (fun f j (I3 : QI) => wX0_copyTaken_26 (nI n) (bI tk) (fun u8 I9 => (∃ f : Nat, wX0_copyTaken_56 (nI n) (bI tk) post f u8 0 I9)) post f (nI a) (nI b) (nI j) I3) (fun j I3 => (∀ b, b ≠ 29 → I3 b = I b) ∧ ∀ k, k < 200 → I3 29 k = bI (tkm A B j k)) B.length ?_ ?_ 0 I2 (Nat.zero_le _) ⟨hF, hG⟩
  · rintro f I3 ⟨hF3, hG3⟩
    show wX0_copyTaken_26 _ _ _ _ _ _ _ _ _
    rw [wX0_copyTaken_26]
    refine p_countOf (by omega) ?_
    rw [(hB.one hF3).1]
    simp (disch := omega) only [fa_lit, nI_ltI, nI_leI, nI_eq, nI_add, pk_mul, nI_clamp, vp_in_nI, l_uk, l_n1, l_n1e, l_n1e2, l_n1l, l_n1l2, l_n1l3, not_true_eq_false, not_false_eq_true, true_implies, false_implies, true_and, and_true, and_self, forall_eq, bI_t, bI_f, Bool.false_eq_true, or_true, true_or, or_false, false_or, s1_ltx, if_true, if_false, Nat.add_zero, Nat.zero_add,  d_leF, d_leT, d_ltF, d_ltT, d_eqF, d_eqT]
    refine lp (fun f i (I4 : QI) => wX0_copyTaken_56 (nI n) (bI tk) post f (nI a) (nI i) I4) (fun i I4 => FA n I I4 ∧ I4 29 = I3 29 ∧ Hd I4 n (kp A (tkm A B B.length) tk i) w) A.length ?_ ?_ 0 I3 (Nat.zero_le _) ⟨FA.one hF3, rfl, hR.one hF3⟩
    · rintro f I4 ⟨hF4, hg4, hH4⟩
      show wX0_copyTaken_56 _ _ _ _ _ _ _
      rw [wX0_copyTaken_56]
      refine p_countOf (by omega) ?_
      rw [(hA.fa hF4 (by omega) hw6).1]
      simp (disch := omega) only [fa_lit, nI_ltI, nI_leI, nI_eq, nI_add, pk_mul, nI_clamp, vp_in_nI, l_uk, l_n1, l_n1e, l_n1e2, l_n1l, l_n1l2, l_n1l3, not_true_eq_false, not_false_eq_true, true_implies, false_implies, true_and, and_true, and_self, forall_eq, bI_t, bI_f, Bool.false_eq_true, or_true, true_or, or_false, false_or, s1_ltx, if_true, if_false, Nat.add_zero, Nat.zero_add,  d_leF, d_leT, d_ltF, d_ltT, d_eqF, d_eqT]
      exact h I4 hF4 hH4
    · rintro f i I4 hi ⟨hF4, hg4, hH4⟩ hk
      show wX0_copyTaken_56 _ _ _ _ _ _ _
      rw [wX0_copyTaken_56]
      refine p_countOf (by omega) ?_
      rw [(hA.fa hF4 (by omega) hw6).1]
      simp (disch := omega) only [fa_lit, nI_ltI, nI_leI, nI_eq, nI_add, pk_mul, nI_clamp, vp_in_nI, l_uk, l_n1, l_n1e, l_n1e2, l_n1l, l_n1l2, l_n1l3, not_true_eq_false, not_false_eq_true, true_implies, false_implies, true_and, and_true, and_self, forall_eq, bI_t, bI_f, Bool.false_eq_true, or_true, true_or, or_false, false_or, s1_ltx, if_true, if_false, Nat.add_zero, Nat.zero_add,  d_leF, d_leT, d_ltF, d_ltT, d_eqF, d_eqT]
      rw [hg4, hG3 i (by omega)]
      have e0 := kp_le A (tkm A B B.length) tk i
      by_cases e : tkm A B B.length i = tk
      · refine ⟨fun e2 => absurd (by rw [e]) e2, fun _ => ?_⟩
        refine p_copyRow (hF4.pc hP) hw (by omega) (by omega) (by omega) (hA.fa hF4 (by omega) hw6) hwa hw6 hi hH4 (fun _ I5 hF5 hg5 hH5 => ?_) (fun hl => ?_)
        · refine hk I5 ⟨hF4.tr hF5, hg5.trans hg4, ?_⟩
          rw [kp, if_pos e]
          exact hH5
        · omega
      · refine ⟨fun _ => ?_, fun e2 => ?_⟩
        · refine hk I4 ⟨hF4, hg4, ?_⟩
          rw [kp, if_neg e]
          exact hH4
        · refine absurd e2 ?_
          revert e
          cases tkm A B B.length i <;> cases tk <;> simp (decide := true) [bI_t, bI_f, nI_eq]
  · rintro f j I3 hj ⟨hF3, hG3⟩ hk
    show wX0_copyTaken_26 _ _ _ _ _ _ _ _ _
    rw [wX0_copyTaken_26]
    refine p_countOf (by omega) ?_
    rw [(hB.one hF3).1]
    simp (disch := omega) only [fa_lit, nI_ltI, nI_leI, nI_eq, nI_add, pk_mul, nI_clamp, vp_in_nI, l_uk, l_n1, l_n1e, l_n1e2, l_n1l, l_n1l2, l_n1l3, not_true_eq_false, not_false_eq_true, true_implies, false_implies, true_and, and_true, and_self, forall_eq, bI_t, bI_f, Bool.false_eq_true, or_true, true_or, or_false, false_or, s1_ltx, if_true, if_false, Nat.add_zero, Nat.zero_add,  d_leF, d_leT, d_ltF, d_ltT, d_eqF, d_eqT]
    have hP3 : Pc I3 P := (FA.one (n := n) hF3).pc hP
    refine p_takeAway hP3 hw (by omega) (by omega) (hA.one hF3) (hB.one hF3) hwa hw6 hj hG3 (fun i hi e => ?_) (fun e => ?_)
    · refine hk _ ⟨fr_u2 hF3, ?_⟩
      rw [tkm, e]
      exact ar_u2 (x := true) hG3
    · refine hk _ ⟨hF3, ?_⟩
      rw [tkm, e]
      exact hG3
def hol (k : Nat) (x y : Int32) : Bool := if k = 0 then decide (x = y) else if k = 1 then decide (¬ x = y) else if k = 2 then decide (¬ y ≤ x) else if k = 3 then decide (¬ x ≤ y) else false
def isT (k : Nat) (x y : Int32) : Bool := if k = 4 then decide (x = UK) else if k = 5 then decide (¬ x = UK) else decide (¬ x = UK) && decide (¬ y = UK) && hol k x y
theorem p_holds {I : QI} {k : Nat} {x y : Int32} {post : Int32 → Prop} (hk : k < 4) (h : post (bI (hol k x y))) : wX7_holds (nI k) x y I post := by
  unfold hol at h
  unfold wX7_holds
  rcases (show k = 0 ∨ k = 1 ∨ k = 2 ∨ k = 3 by omega) with rfl | rfl | rfl | rfl
  · simp (disch := omega) only [fa_lit, nI_ltI, nI_leI, nI_eq, nI_add, pk_mul, nI_clamp, vp_in_nI, l_uk, l_n1, l_n1e, l_n1e2, l_n1l, l_n1l2, l_n1l3, not_true_eq_false, not_false_eq_true, true_implies, false_implies, true_and, and_true, and_self, forall_eq, bI_t, bI_f, Bool.false_eq_true, or_true, true_or, or_false, false_or, s1_ltx, if_true, if_false, Nat.add_zero, Nat.zero_add,  d_leF, d_leT, d_ltF, d_ltT, d_eqF, d_eqT]
    refine ⟨fun e => ?_, fun e => ?_⟩
    · simpa [e, bI_t, bI_f] using h
    · simpa [e, bI_t, bI_f] using h
  · simp (disch := omega) only [fa_lit, nI_ltI, nI_leI, nI_eq, nI_add, pk_mul, nI_clamp, vp_in_nI, l_uk, l_n1, l_n1e, l_n1e2, l_n1l, l_n1l2, l_n1l3, not_true_eq_false, not_false_eq_true, true_implies, false_implies, true_and, and_true, and_self, forall_eq, bI_t, bI_f, Bool.false_eq_true, or_true, true_or, or_false, false_or, s1_ltx, if_true, if_false, Nat.add_zero, Nat.zero_add,  d_leF, d_leT, d_ltF, d_ltT, d_eqF, d_eqT]
    refine ⟨fun e => ?_, fun e => ?_⟩
    · simpa [e, bI_t, bI_f] using h
    · simpa [e, bI_t, bI_f] using h
  · simp (disch := omega) only [fa_lit, nI_ltI, nI_leI, nI_eq, nI_add, pk_mul, nI_clamp, vp_in_nI, l_uk, l_n1, l_n1e, l_n1e2, l_n1l, l_n1l2, l_n1l3, not_true_eq_false, not_false_eq_true, true_implies, false_implies, true_and, and_true, and_self, forall_eq, bI_t, bI_f, Bool.false_eq_true, or_true, true_or, or_false, false_or, s1_ltx, if_true, if_false, Nat.add_zero, Nat.zero_add,  d_leF, d_leT, d_ltF, d_ltT, d_eqF, d_eqT]
    refine ⟨fun e => ?_, fun e => ?_⟩
    · simpa [e, bI_t, bI_f] using h
    · simpa [e, bI_t, bI_f] using h
  · simp (disch := omega) only [fa_lit, nI_ltI, nI_leI, nI_eq, nI_add, pk_mul, nI_clamp, vp_in_nI, l_uk, l_n1, l_n1e, l_n1e2, l_n1l, l_n1l2, l_n1l3, not_true_eq_false, not_false_eq_true, true_implies, false_implies, true_and, and_true, and_self, forall_eq, bI_t, bI_f, Bool.false_eq_true, or_true, true_or, or_false, false_or, s1_ltx, if_true, if_false, Nat.add_zero, Nat.zero_add,  d_leF, d_leT, d_ltF, d_ltT, d_eqF, d_eqT]
    refine ⟨fun e => ?_, fun e => ?_⟩
    · simpa [e, bI_t, bI_f] using h
    · simpa [e, bI_t, bI_f] using h
theorem p_isTrue {I : QI} {k : Nat} {x y : Int32} {post : Int32 → Prop} (hk : k < 6) (h : post (bI (isT k x y))) : wX7_isTrue (nI k) x y I post := by
  unfold isT at h
  unfold wX7_isTrue
  rcases (show k = 4 ∨ k = 5 ∨ k < 4 by omega) with rfl | rfl | hk4
  · simp (disch := omega) only [fa_lit, nI_ltI, nI_leI, nI_eq, nI_add, pk_mul, nI_clamp, vp_in_nI, l_uk, l_n1, l_n1e, l_n1e2, l_n1l, l_n1l2, l_n1l3, not_true_eq_false, not_false_eq_true, true_implies, false_implies, true_and, and_true, and_self, forall_eq, bI_t, bI_f, Bool.false_eq_true, or_true, true_or, or_false, false_or, s1_ltx, if_true, if_false, Nat.add_zero, Nat.zero_add,  d_leF, d_leT, d_ltF, d_ltT, d_eqF, d_eqT]
    refine ⟨fun e => ?_, fun e => ?_⟩
    · simpa [e, bI_t, bI_f] using h
    · simpa [e, bI_t, bI_f] using h
  · simp (disch := omega) only [fa_lit, nI_ltI, nI_leI, nI_eq, nI_add, pk_mul, nI_clamp, vp_in_nI, l_uk, l_n1, l_n1e, l_n1e2, l_n1l, l_n1l2, l_n1l3, not_true_eq_false, not_false_eq_true, true_implies, false_implies, true_and, and_true, and_self, forall_eq, bI_t, bI_f, Bool.false_eq_true, or_true, true_or, or_false, false_or, s1_ltx, if_true, if_false, Nat.add_zero, Nat.zero_add,  d_leF, d_leT, d_ltF, d_ltT, d_eqF, d_eqT]
    refine ⟨fun e => ?_, fun e => ?_⟩
    · simpa [e, bI_t, bI_f] using h
    · simpa [e, bI_t, bI_f] using h
  · rw [if_neg (by omega), if_neg (by omega)] at h
    simp (disch := omega) only [fa_lit, nI_ltI, nI_leI, nI_eq, nI_add, pk_mul, nI_clamp, vp_in_nI, l_uk, l_n1, l_n1e, l_n1e2, l_n1l, l_n1l2, l_n1l3, not_true_eq_false, not_false_eq_true, true_implies, false_implies, true_and, and_true, and_self, forall_eq, bI_t, bI_f, Bool.false_eq_true, or_true, true_or, or_false, false_or, s1_ltx, if_true, if_false, Nat.add_zero, Nat.zero_add,  d_leF, d_leT, d_ltF, d_ltT, d_eqF, d_eqT]
    refine ⟨fun e => ?_, fun e => ⟨fun e2 => ?_, fun e2 => p_holds hk4 ?_⟩⟩
    · simpa [e, bI_t, bI_f] using h
    · simpa [e2, bI_t, bI_f] using h
    · cases e3 : hol k x y
      · rw [e3] at h
        simp (disch := omega) only [fa_lit, nI_ltI, nI_leI, nI_eq, nI_add, pk_mul, nI_clamp, vp_in_nI, l_uk, l_n1, l_n1e, l_n1e2, l_n1l, l_n1l2, l_n1l3, not_true_eq_false, not_false_eq_true, true_implies, false_implies, true_and, and_true, and_self, forall_eq, bI_t, bI_f, Bool.false_eq_true, or_true, true_or, or_false, false_or, s1_ltx, if_true, if_false, Nat.add_zero, Nat.zero_add,  d_leF, d_leT, d_ltF, d_ltT, d_eqF, d_eqT]
        simpa [bI_t, bI_f] using h
      · rw [e3] at h
        simp (disch := omega) only [fa_lit, nI_ltI, nI_leI, nI_eq, nI_add, pk_mul, nI_clamp, vp_in_nI, l_uk, l_n1, l_n1e, l_n1e2, l_n1l, l_n1l2, l_n1l3, not_true_eq_false, not_false_eq_true, true_implies, false_implies, true_and, and_true, and_self, forall_eq, bI_t, bI_f, Bool.false_eq_true, or_true, true_or, or_false, false_or, s1_ltx, if_true, if_false, Nat.add_zero, Nat.zero_add,  d_leF, d_leT, d_ltF, d_ltT, d_eqF, d_eqT]
        simpa [e, e2, bI_t, bI_f] using h
def rowT (T : QT) (a r : Nat) : List Int32 := (List.range (T.2.1 a)).map (fun c => T.2.2.2 a r c)
def flS (T : QT) (a : Nat) : Nat → List (List Int32)
  | 0 => []
  | i + 1 => flS T a i ++ [rowT T a i]
theorem flS_l (T : QT) (a : Nat) : ∀ i, (flS T a i).length = i
  | 0 => rfl
  | i + 1 => by
    rw [flS, List.length_append, flS_l T a i]
    rfl
theorem p_fillScan {I : QI} {T : QT} {P : List Nd} (hT : Tc I T) (hwT : Tw T) (hP : Pc I P) (hw : Pw T P) {n : Nat} (hn : n < P.length) (ha : (nd P n).2.1 < T.1) (hR : Hd I n [] (T.2.1 (nd P n).2.1)) {post : Int32 → QI → Prop} (h : ∀ I2, FA n I I2 → Hd I2 n (flS T (nd P n).2.1 (T.2.2.1 (nd P n).2.1)) (T.2.1 (nd P n).2.1) → post (nI 1) I2) : wX0_fillScan (nI n) I post := by
  have h24 := hw.1
  unfold wX0_fillScan
  refine p_firstOf hP hw hn ?_
  generalize hea : (nd P n).2.1 = a at *
  obtain ⟨t4, w3, m10, w1⟩ := hwT.l ha
  refine find_t hT hwT ha (b_some ?_)
  refine lp (fun f i (I2 : QI) => wX0_fillScan_24 (nI n) a post f (nI i) I2) (fun i I2 => FA n I I2 ∧ Hd I2 n (flS T a i) (T.2.1 a)) (T.2.2.1 a) ?_ ?_ 0 I (Nat.zero_le _) ⟨FA.rf _ _, hR⟩
  · rintro f I2 ⟨hF, hH⟩
    show wX0_fillScan_24 _ _ _ _ _ _
    rw [wX0_fillScan_24]
    unfold wX5_count
    simp (disch := omega) only [((hF.tc hT).t t4).2, fa_lit, nI_ltI, nI_leI, nI_eq, nI_add, pk_mul, nI_clamp, vp_in_nI, l_uk, l_n1, l_n1e, l_n1e2, l_n1l, l_n1l2, l_n1l3, not_true_eq_false, not_false_eq_true, true_implies, false_implies, true_and, and_true, and_self, forall_eq, bI_t, bI_f, Bool.false_eq_true, or_true, true_or, or_false, false_or, s1_ltx, if_true, if_false, Nat.add_zero, Nat.zero_add,  d_leF, d_leT, d_ltF, d_ltT, d_eqF, d_eqT]
    exact h I2 hF hH
  · rintro f i I2 hi ⟨hF, hH⟩ hk
    show wX0_fillScan_24 _ _ _ _ _ _
    rw [wX0_fillScan_24]
    unfold wX5_count
    simp (disch := omega) only [((hF.tc hT).t t4).2, fa_lit, nI_ltI, nI_leI, nI_eq, nI_add, pk_mul, nI_clamp, vp_in_nI, l_uk, l_n1, l_n1e, l_n1e2, l_n1l, l_n1l2, l_n1l3, not_true_eq_false, not_false_eq_true, true_implies, false_implies, true_and, and_true, and_self, forall_eq, bI_t, bI_f, Bool.false_eq_true, or_true, true_or, or_false, false_or, s1_ltx, if_true, if_false, Nat.add_zero, Nat.zero_add,  d_leF, d_leT, d_ltF, d_ltT, d_eqF, d_eqT]
    have hl := flS_l T a i
    refine p_newRow (by omega) hH (fun hl2 => ?_) (fun hl2 => by omega)
    rw [hl] at *
    refine lp (fun g c (I3 : QI) => wX0_fillScan_42 (nI n) a (fun u11 I12 => wX0_fillScan_24 (nI n) a post f (u11 + nI 1) I12) post g (nI i) (nI i) (nI c) I3) (fun c I3 => Wr (q_u2 I2 25 n (nI (i + 1))) I3 (n * 1200 + i * 6) c (fun c => T.2.2.2 a i c)) (T.2.1 a) ?_ ?_ 0 _ (Nat.zero_le _) (Wr.z _ _ _)
    · intro g I3 hW
      have hT3 : Tc I3 T := Tc_fr hT (fun b hb => by rw [hW.1 b (by omega), nr_u2 (by omega)]; exact hF.1 b (by omega) (by omega) (by omega))
      show wX0_fillScan_42 _ _ _ _ _ _ _ _ _
      rw [wX0_fillScan_42]
      unfold wX5_columns
      simp (disch := omega) only [(hT3.t t4).1, fa_lit, nI_ltI, nI_leI, nI_eq, nI_add, pk_mul, nI_clamp, vp_in_nI, l_uk, l_n1, l_n1e, l_n1e2, l_n1l, l_n1l2, l_n1l3, not_true_eq_false, not_false_eq_true, true_implies, false_implies, true_and, and_true, and_self, forall_eq, bI_t, bI_f, Bool.false_eq_true, or_true, true_or, or_false, false_or, s1_ltx, if_true, if_false, Nat.add_zero, Nat.zero_add,  d_leF, d_leT, d_ltF, d_ltT, d_eqF, d_eqT]
      have hl9 := flS_l T a i
      obtain ⟨x, y, z⟩ := hH.put (g := fun c => T.2.2.2 a i c) (I2 := I3) (by omega) (by omega) (by rw [hl9]; exact hW)
      refine hk I3 ⟨hF.tr x, ?_⟩
      exact z
    · intro g c I3 hc hW hk3
      have hT3 : Tc I3 T := Tc_fr hT (fun b hb => by rw [hW.1 b (by omega), nr_u2 (by omega)]; exact hF.1 b (by omega) (by omega) (by omega))
      show wX0_fillScan_42 _ _ _ _ _ _ _ _ _
      rw [wX0_fillScan_42]
      unfold wX5_columns
      simp (disch := omega) only [(hT3.t t4).1, fa_lit, nI_ltI, nI_leI, nI_eq, nI_add, pk_mul, nI_clamp, vp_in_nI, l_uk, l_n1, l_n1e, l_n1e2, l_n1l, l_n1l2, l_n1l3, not_true_eq_false, not_false_eq_true, true_implies, false_implies, true_and, and_true, and_self, forall_eq, bI_t, bI_f, Bool.false_eq_true, or_true, true_or, or_false, false_or, s1_ltx, if_true, if_false, Nat.add_zero, Nat.zero_add,  d_leF, d_leT, d_ltF, d_ltT, d_eqF, d_eqT]
      refine p_value hT3 hwT t4 hi hc ?_
      refine p_put (by omega) (by omega) (by omega) ?_
      exact hk3 _ hW.s
def flF (k c : Nat) (e : Int32) (A : List (List Int32)) : Nat → List (List Int32)
  | 0 => []
  | i + 1 => if isT k ((A.getD i []).getD c UK) e then flF k c e A i ++ [A.getD i []] else flF k c e A i
theorem flF_le (k c : Nat) (e : Int32) (A : List (List Int32)) : ∀ i, (flF k c e A i).length ≤ i
  | 0 => Nat.le_refl 0
  | i + 1 => by
    have := flF_le k c e A i
    rw [flF]
    split
    · rw [List.length_append]
      show _ + 1 ≤ _
      omega
    · omega
theorem p_fillFilter {I : QI} {T : QT} {P : List Nd} (hP : Pc I P) (hw : Pw T P) {n w : Nat} {A : List (List Int32)} (hn : n < P.length) (ha : (nd P n).2.1 < n) (hk6 : (nd P n).2.2.2.1 < 6) (hc : (nd P n).2.2.2.2.1 < w) (hA : Hd I (nd P n).2.1 A w) (hwa : (nd P (nd P n).2.1).2.2.2.2.2.2 = w) (hw6 : w ≤ 6) (hR : Hd I n [] w) {post : Int32 → QI → Prop} (h : ∀ I2, FA n I I2 → Hd I2 n (flF (nd P n).2.2.2.1 (nd P n).2.2.2.2.1 (nd P n).2.2.2.2.2.1 A A.length) w → post (nI 1) I2) : wX0_fillFilter (nI n) I post := by
  have h24 := hw.1
  have hA2 := hA.2.1
  unfold wX0_fillFilter
  refine p_firstOf hP hw hn ?_
  refine lp (fun f i (I2 : QI) => wX0_fillFilter_11 (nI n) post f (nI (nd P n).2.1) (nI i) I2) (fun i I2 => FA n I I2 ∧ Hd I2 n (flF (nd P n).2.2.2.1 (nd P n).2.2.2.2.1 (nd P n).2.2.2.2.2.1 A i) w) A.length ?_ ?_ 0 I (Nat.zero_le _) ⟨FA.rf _ _, hR⟩
  · rintro f I2 ⟨hF, hH⟩
    show wX0_fillFilter_11 _ _ _ _ _ _
    rw [wX0_fillFilter_11]
    refine p_countOf (by omega) ?_
    rw [(hA.fa hF (by omega) hw6).1]
    simp (disch := omega) only [fa_lit, nI_ltI, nI_leI, nI_eq, nI_add, pk_mul, nI_clamp, vp_in_nI, l_uk, l_n1, l_n1e, l_n1e2, l_n1l, l_n1l2, l_n1l3, not_true_eq_false, not_false_eq_true, true_implies, false_implies, true_and, and_true, and_self, forall_eq, bI_t, bI_f, Bool.false_eq_true, or_true, true_or, or_false, false_or, s1_ltx, if_true, if_false, Nat.add_zero, Nat.zero_add,  d_leF, d_leT, d_ltF, d_ltT, d_eqF, d_eqT]
    exact h I2 hF hH
  · rintro f i I2 hi ⟨hF, hH⟩ hk
    show wX0_fillFilter_11 _ _ _ _ _ _
    rw [wX0_fillFilter_11]
    refine p_countOf (by omega) ?_
    rw [(hA.fa hF (by omega) hw6).1]
    simp (disch := omega) only [fa_lit, nI_ltI, nI_leI, nI_eq, nI_add, pk_mul, nI_clamp, vp_in_nI, l_uk, l_n1, l_n1e, l_n1e2, l_n1l, l_n1l2, l_n1l3, not_true_eq_false, not_false_eq_true, true_implies, false_implies, true_and, and_true, and_self, forall_eq, bI_t, bI_f, Bool.false_eq_true, or_true, true_or, or_false, false_or, s1_ltx, if_true, if_false, Nat.add_zero, Nat.zero_add,  d_leF, d_leT, d_ltF, d_ltT, d_eqF, d_eqT]
    have hP2 := hF.pc hP
    have hA3 := hA.fa hF (by omega) hw6
    refine p_columnOf hP2 hw hn ?_
    refine p_valueAt (by omega) hA3 hi hc hw6 ?_
    refine p_kindOf hP2 hw hn (p_extraOf hP2 hw hn (p_isTrue hk6 ?_))
    have e0 := flF_le (nd P n).2.2.2.1 (nd P n).2.2.2.2.1 (nd P n).2.2.2.2.2.1 A i
    cases e : isT (nd P n).2.2.2.1 ((A.getD i []).getD (nd P n).2.2.2.2.1 UK) (nd P n).2.2.2.2.2.1
    · simp (disch := omega) only [fa_lit, nI_ltI, nI_leI, nI_eq, nI_add, pk_mul, nI_clamp, vp_in_nI, l_uk, l_n1, l_n1e, l_n1e2, l_n1l, l_n1l2, l_n1l3, not_true_eq_false, not_false_eq_true, true_implies, false_implies, true_and, and_true, and_self, forall_eq, bI_t, bI_f, Bool.false_eq_true, or_true, true_or, or_false, false_or, s1_ltx, if_true, if_false, Nat.add_zero, Nat.zero_add,  d_leF, d_leT, d_ltF, d_ltT, d_eqF, d_eqT]
      refine hk I2 ⟨hF, ?_⟩
      rw [flF, e]
      exact hH
    · simp (disch := omega) only [fa_lit, nI_ltI, nI_leI, nI_eq, nI_add, pk_mul, nI_clamp, vp_in_nI, l_uk, l_n1, l_n1e, l_n1e2, l_n1l, l_n1l2, l_n1l3, not_true_eq_false, not_false_eq_true, true_implies, false_implies, true_and, and_true, and_self, forall_eq, bI_t, bI_f, Bool.false_eq_true, or_true, true_or, or_false, false_or, s1_ltx, if_true, if_false, Nat.add_zero, Nat.zero_add,  d_leF, d_leT, d_ltF, d_ltT, d_eqF, d_eqT]
      refine p_copyRow hP2 hw (by omega) (by omega) (by omega) hA3 hwa hw6 hi hH (fun _ I5 hF5 hg5 hH5 => ?_) (fun hl => ?_)
      · refine hk I5 ⟨hF.tr hF5, ?_⟩
        rw [flF, e]
        exact hH5
      · omega
