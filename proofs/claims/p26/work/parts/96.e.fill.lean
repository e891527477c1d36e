/-! pure: the class fills joins, groups, bags: a node from its parts -/
theorem p_pairUp {I : QI} {T : QT} {P : List Nd} (hP : Pc I P) (hw : Pw T P) {n r d wa wb : Nat} {A B R : List (List Int32)} (hJ : Jn I P n wa wb A B) (hw6 : wa + wb ≤ 6) (hr : r < A.length) (hc : (nd P n).2.2.2.2.1 < wa) (hd : d < wb) (hde : (nd P n).2.2.2.2.2.1 = nI d) (hk2 : (nd P n).2.2.2.1 < 6) (hR : Hd I n R (wa + wb)) {post : Int32 → QI → Prop} (h : ∀ I2, FA n I I2 → Hd I2 n (R ++ prR (nd P n).2.2.2.1 (nd P n).2.2.2.2.1 d wb B (A.getD r [])) (wa + wb) → post (nI 1) I2) (h2 : 200 < R.length + (prR (nd P n).2.2.2.1 (nd P n).2.2.2.2.1 d wb B (A.getD r [])).length → ∀ I2, FA n I I2 → post (nI 0) I2) : wX0_pairUp (nI n) (nI r) I post := by
  have h24 := hw.1
  have hJ0 := hJ
  obtain ⟨hn, ha, hb0, hb, hA, hB, hwa, hwb⟩ := hJ
  have hA2 := hA.2.1
  have hB2 := hB.2.1
  unfold wX0_pairUp
  refine p_secondOf hP hw hn (p_extraOf hP hw hn (p_firstOf hP hw hn (p_columnOf hP hw hn ?_)))
  have e9 : sB (nd P n).2.2.1 = nI ((nd P n).2.2.1 - 1) := if_neg hb0
  rw [e9, hde]
  refine p_valueAt (by omega) hA hr hc (by omega) ?_
  -- the tail
  have tail : ∀ (M : List (List Int32)) (I2 : QI), M = (if (A.getD r []).getD (nd P n).2.2.2.2.1 UK = UK then [] else prN B d (A.getD r []) ((A.getD r []).getD (nd P n).2.2.2.2.1 UK) B.length) → FA n I I2 → Hd I2 n (R ++ M) (wa + wb) → ((¬ bI (decide (M ≠ [])) = 0 → post 1 I2) ∧ (bI (decide (M ≠ [])) = 0 → (wX2_kindOf (nI n) I2 (fun r14 => ((r14 = 0 → post 1 I2) ∧ (¬ r14 = 0 → (wX0_copyPair (nI n) (nI r) (-1) I2 (fun r16 I15 => ((r16 = 0 → post 0 I15) ∧ (¬ r16 = 0 → post 1 I15)))))))))) := by
    intro M I2 hM hF hH
    have hpr : prR (nd P n).2.2.2.1 (nd P n).2.2.2.2.1 d wb B (A.getD r []) = if M = [] ∧ (nd P n).2.2.2.1 ≠ 0 then [A.getD r [] ++ uks wb] else M := by
      rw [hM]
      rfl
    rw [hpr] at h h2
    by_cases eM : M = []
    · subst eM
      simp (disch := omega) only [decide_false, ne_eq, decide_not, decide_true, Bool.not_true, fa_lit, nI_ltI, nI_leI, nI_eq, nI_add, pk_mul, nI_clamp, vp_in_nI, l_uk, l_n1, l_n1e, l_n1e2, l_n1l, l_n1l2, l_n1l3, not_true_eq_false, not_false_eq_true, true_implies, false_implies, true_and, and_true, and_self, forall_eq, bI_t, bI_f, Bool.false_eq_true, or_true, true_or, or_false, false_or, s1_ltx, if_true, if_false, Nat.add_zero, Nat.zero_add,  d_leF, d_leT, d_ltF, d_ltT, d_eqF, d_eqT]
      refine p_kindOf (hF.pc hP) hw hn ?_
      refine ⟨fun e => ?_, fun e => ?_⟩
      · have e3 : ¬ ((nd P n).2.2.2.1 ≠ 0) := by
          intro e4
          have e5 : nI (nd P n).2.2.2.1 = nI 0 := e
          rw [nI_eq (by omega) (by omega)] at e5
          exact e4 e5
        rw [if_neg (fun z => e3 z.2)] at h
        exact h I2 hF hH
      · have e3 : (nd P n).2.2.2.1 ≠ 0 := fun e4 => e (by rw [e4])
        rw [if_pos ⟨rfl, e3⟩] at h h2
        rw [List.append_nil] at hH
        refine p_copyPair (o := none) (hF.pc hP) hw (hJ0.fa hF (by omega) (by omega)) hw6 hr (fun s hs => by cases hs) hH (fun _ I3 hF3 hH3 => ?_) (fun hl I3 hF3 => ?_)
        · simp (disch := omega) only [fa_lit, nI_ltI, nI_leI, nI_eq, nI_add, pk_mul, nI_clamp, vp_in_nI, l_uk, l_n1, l_n1e, l_n1e2, l_n1l, l_n1l2, l_n1l3, not_true_eq_false, not_false_eq_true, true_implies, false_implies, true_and, and_true, and_self, forall_eq, bI_t, bI_f, Bool.false_eq_true, or_true, true_or, or_false, false_or, s1_ltx, if_true, if_false, Nat.add_zero, Nat.zero_add,  d_leF, d_leT, d_ltF, d_ltT, d_eqF, d_eqT]
          exact h I3 (hF.tr hF3) hH3
        · simp (disch := omega) only [fa_lit, nI_ltI, nI_leI, nI_eq, nI_add, pk_mul, nI_clamp, vp_in_nI, l_uk, l_n1, l_n1e, l_n1e2, l_n1l, l_n1l2, l_n1l3, not_true_eq_false, not_false_eq_true, true_implies, false_implies, true_and, and_true, and_self, forall_eq, bI_t, bI_f, Bool.false_eq_true, or_true, true_or, or_false, false_or, s1_ltx, if_true, if_false, Nat.add_zero, Nat.zero_add,  d_leF, d_leT, d_ltF, d_ltT, d_eqF, d_eqT]
          refine h2 ?_ I3 (hF.tr hF3)
          show 200 < R.length + 1
          omega
    · have e3 : decide (M ≠ []) = true := decide_eq_true eM
      rw [if_neg (fun z => eM z.1)] at h
      rw [e3]
      simp (disch := omega) only [fa_lit, nI_ltI, nI_leI, nI_eq, nI_add, pk_mul, nI_clamp, vp_in_nI, l_uk, l_n1, l_n1e, l_n1e2, l_n1l, l_n1l2, l_n1l3, not_true_eq_false, not_false_eq_true, true_implies, false_implies, true_and, and_true, and_self, forall_eq, bI_t, bI_f, Bool.false_eq_true, or_true, true_or, or_false, false_or, s1_ltx, if_true, if_false, Nat.add_zero, Nat.zero_add,  d_leF, d_leT, d_ltF, d_ltT, d_eqF, d_eqT]
      exact h I2 hF hH
  refine ⟨fun e => ?_, fun e => ?_⟩
  · refine p_countOf (by omega) ?_
    rw [hB.1]
    have e0 : ¬ (A.getD r []).getD (nd P n).2.2.2.2.1 UK = UK := e
    refine p_pairUp_67 hP hw hJ0 hw6 hr hd hR (Or.inl rfl) (fun I2 hF hH => ?_) (fun hl I2 hF => h2 ?_ I2 hF)
    · exact tail _ I2 (by rw [if_neg e0]) hF hH
    · unfold prR
      rw [if_neg e0]
      have e5 : ¬ (prN B d (A.getD r []) ((A.getD r []).getD (nd P n).2.2.2.2.1 UK) B.length = [] ∧ (nd P n).2.2.2.1 ≠ 0) := by
        intro z
        rw [z.1] at hl
        have := hR.2.1
        have e6 : 200 < R.length + 0 := hl
        omega
      rw [if_neg e5]
      exact hl
  · have e0 : (A.getD r []).getD (nd P n).2.2.2.2.1 UK = UK := e
    refine p_pairUp_67 hP hw hJ0 hw6 hr hd hR (z := 0) (Or.inr rfl) (fun I2 hF hH => ?_) (fun hl I2 hF => ?_)
    · exact tail _ I2 (by rw [if_pos e0]; rfl) hF hH
    · have := hR.2.1
      have e6 : 200 < R.length + 0 := hl
      omega
def flJ (k c d wb : Nat) (A B : List (List Int32)) : Nat → List (List Int32)
  | 0 => []
  | i + 1 => flJ k c d wb A B i ++ prR k c d wb B (A.getD i [])
theorem flJ_mono {k c d wb : Nat} {A B : List (List Int32)} (i : Nat) : ∀ m, (flJ k c d wb A B i).length ≤ (flJ k c d wb A B (i + m)).length
  | 0 => Nat.le_refl _
  | m + 1 => by
    refine Nat.le_trans (flJ_mono i m) ?_
    rw [← Nat.add_assoc, flJ, List.length_append]
    omega
theorem p_fillSideBySide {I : QI} {T : QT} {P : List Nd} (hP : Pc I P) (hw : Pw T P) {n d wa wb : Nat} {A B : List (List Int32)} (hJ : Jn I P n wa wb A B) (hw6 : wa + wb ≤ 6) (hc : (nd P n).2.2.2.2.1 < wa) (hd : d < wb) (hde : (nd P n).2.2.2.2.2.1 = nI d) (hk2 : (nd P n).2.2.2.1 < 6) (hR : Hd I n [] (wa + wb)) {post : Int32 → QI → Prop} (h : ∀ I2, FA n I I2 → Hd I2 n (flJ (nd P n).2.2.2.1 (nd P n).2.2.2.2.1 d wb A B A.length) (wa + wb) → post (nI 1) I2) (h2 : 200 < (flJ (nd P n).2.2.2.1 (nd P n).2.2.2.2.1 d wb A B A.length).length → ∀ I2, FA n I I2 → post (nI 0) I2) : wX0_fillSideBySide (nI n) I post := by
  have h24 := hw.1
  have hJ0 := hJ
  obtain ⟨hn, ha, hb0, hb, hA, hB, hwa, hwb⟩ := hJ
  have hA2 := hA.2.1
  unfold wX0_fillSideBySide
  refine p_firstOf hP hw hn (p_countOf (by omega) ?_)
  rw [hA.1]
  refine lp (fun f i (I2 : QI) => wX0_fillSideBySide_15 (nI n) post f (nI A.length) (nI i) I2) (fun i I2 => FA n I I2 ∧ Hd I2 n (flJ (nd P n).2.2.2.1 (nd P n).2.2.2.2.1 d wb A B i) (wa + wb)) A.length ?_ ?_ 0 I (Nat.zero_le _) ⟨FA.rf _ _, hR⟩
  · rintro f I2 ⟨hF, hH⟩
    show wX0_fillSideBySide_15 _ _ _ _ _ _
    rw [wX0_fillSideBySide_15]
    simp (disch := omega) only [fa_lit, nI_ltI, nI_leI, nI_eq, nI_add, pk_mul, nI_clamp, vp_in_nI, l_uk, l_n1, l_n1e, l_n1e2, l_n1l, l_n1l2, l_n1l3, not_true_eq_false, not_false_eq_true, true_implies, false_implies, true_and, and_true, and_self, forall_eq, bI_t, bI_f, Bool.false_eq_true, or_true, true_or, or_false, false_or, s1_ltx, if_true, if_false, Nat.add_zero, Nat.zero_add,  d_leF, d_leT, d_ltF, d_ltT, d_eqF, d_eqT]
    exact h I2 hF hH
  · rintro f i I2 hi ⟨hF, hH⟩ hk
    show wX0_fillSideBySide_15 _ _ _ _ _ _
    rw [wX0_fillSideBySide_15]
    simp (disch := omega) only [fa_lit, nI_ltI, nI_leI, nI_eq, nI_add, pk_mul, nI_clamp, vp_in_nI, l_uk, l_n1, l_n1e, l_n1e2, l_n1l, l_n1l2, l_n1l3, not_true_eq_false, not_false_eq_true, true_implies, false_implies, true_and, and_true, and_self, forall_eq, bI_t, bI_f, Bool.false_eq_true, or_true, true_or, or_false, false_or, s1_ltx, if_true, if_false, Nat.add_zero, Nat.zero_add,  d_leF, d_leT, d_ltF, d_ltT, d_eqF, d_eqT]
    refine p_pairUp (hF.pc hP) hw (hJ0.fa hF (by omega) (by omega)) hw6 hi hc hd hde hk2 hH (fun I3 hF3 hH3 => ?_) (fun hl I3 hF3 => ?_)
    · simp (disch := omega) only [fa_lit, nI_ltI, nI_leI, nI_eq, nI_add, pk_mul, nI_clamp, vp_in_nI, l_uk, l_n1, l_n1e, l_n1e2, l_n1l, l_n1l2, l_n1l3, not_true_eq_false, not_false_eq_true, true_implies, false_implies, true_and, and_true, and_self, forall_eq, bI_t, bI_f, Bool.false_eq_true, or_true, true_or, or_false, false_or, s1_ltx, if_true, if_false, Nat.add_zero, Nat.zero_add,  d_leF, d_leT, d_ltF, d_ltT, d_eqF, d_eqT]
      exact hk I3 ⟨hF.tr hF3, hH3⟩
    · simp (disch := omega) only [fa_lit, nI_ltI, nI_leI, nI_eq, nI_add, pk_mul, nI_clamp, vp_in_nI, l_uk, l_n1, l_n1e, l_n1e2, l_n1l, l_n1l2, l_n1l3, not_true_eq_false, not_false_eq_true, true_implies, false_implies, true_and, and_true, and_self, forall_eq, bI_t, bI_f, Bool.false_eq_true, or_true, true_or, or_false, false_or, s1_ltx, if_true, if_false, Nat.add_zero, Nat.zero_add,  d_leF, d_leT, d_ltF, d_ltT, d_eqF, d_eqT]
      refine h2 ?_ I3 (hF.tr hF3)
      have e9 := flJ_mono (k := (nd P n).2.2.2.1) (c := (nd P n).2.2.2.2.1) (d := d) (wb := wb) (A := A) (B := B) (i + 1) (A.length - (i + 1))
      rw [show i + 1 + (A.length - (i + 1)) = A.length by omega, flJ, List.length_append] at e9
      omega
/-- whether a row with this value stays in a SEMI, an ANTI or a NOT IN -/
def stB (k d : Nat) (B : List (List Int32)) (x : Int32) : Bool :=
  if k = 2 then decide (¬ x = UK) && (frw B d x).isSome else if k = 4 ∧ 0 < B.length then decide (¬ x = UK) && (frw B d x).isNone && (frw B d UK).isNone else !(decide (¬ x = UK) && (frw B d x).isSome)
theorem p_stays {I : QI} {T : QT} {P : List Nd} (hP : Pc I P) (hw : Pw T P) {n d wa wb : Nat} {x : Int32} {A B : List (List Int32)} (hJ : Jn I P n wa wb A B) (hwb6 : wb ≤ 6) (hd : d < wb) (hde : (nd P n).2.2.2.2.2.1 = nI d) (hk2 : (nd P n).2.2.2.1 < 5) {post : Int32 → Prop} (h : post (bI (stB (nd P n).2.2.2.1 d B x))) : wX0_stays (nI n) x I post := by
  have h24 := hw.1
  obtain ⟨hn, ha, hb0, hb, hA, hB, hwa, hwb⟩ := hJ
  have hB2 := hB.2.1
  have e9 : sB (nd P n).2.2.1 = nI ((nd P n).2.2.1 - 1) := if_neg hb0
  generalize hK : (nd P n).2.2.2.1 = k at *
  have kO : ∀ {Q : Int32 → Prop}, Q (nI k) → wX2_kindOf (nI n) I Q := fun hq => p_kindOf hP hw hn (by rw [hK]; exact hq)
  unfold wX0_stays
  refine p_secondOf hP hw hn (p_extraOf hP hw hn ?_)
  rw [e9, hde]
  unfold stB at h
  refine ⟨fun e => kO ⟨fun e2 => kO ⟨fun e3 => ?_, fun e3 => p_countOf (by omega) ?_⟩, fun e2 => ?_⟩, fun e => p_findRow (by omega) hB hd hwb6 (fun i hi e0 => ?_) (fun e0 => ?_)⟩
  · have k2 : ¬ k = 2 := fun z => e2 (by rw [z]; rfl)
    have k4 : ¬ k = 4 := fun z => e3 (by rw [z]; rfl)
    rw [if_neg k2, if_neg (fun z => k4 z.1), decide_eq_false (fun z => z e)] at h
    exact h
  · have k2 : ¬ k = 2 := fun z => e2 (by rw [z]; rfl)
    have k4 : k = 4 := by
      have e5 : nI k = nI 4 := e3
      rwa [nI_eq (by omega) (by omega)] at e5
    rw [hB.1]
    by_cases hl : 0 < B.length
    · rw [if_neg k2, if_pos ⟨k4, hl⟩, decide_eq_false (fun z => z e)] at h
      simp (disch := omega) only [fa_lit, nI_ltI, nI_leI, nI_eq, nI_add, pk_mul, nI_clamp, vp_in_nI, l_uk, l_n1, l_n1e, l_n1e2, l_n1l, l_n1l2, l_n1l3, not_true_eq_false, not_false_eq_true, true_implies, false_implies, true_and, and_true, and_self, forall_eq, bI_t, bI_f, Bool.false_eq_true, or_true, true_or, or_false, false_or, s1_ltx, if_true, if_false, Nat.add_zero, Nat.zero_add,  d_leF, d_leT, d_ltF, d_ltT, d_eqF, d_eqT]
      refine ⟨fun _ => h, fun e5 => absurd e e5⟩
    · rw [if_neg k2, if_neg (fun z => hl z.2), decide_eq_false (fun z => z e)] at h
      simp (disch := omega) only [fa_lit, nI_ltI, nI_leI, nI_eq, nI_add, pk_mul, nI_clamp, vp_in_nI, l_uk, l_n1, l_n1e, l_n1e2, l_n1l, l_n1l2, l_n1l3, not_true_eq_false, not_false_eq_true, true_implies, false_implies, true_and, and_true, and_self, forall_eq, bI_t, bI_f, Bool.false_eq_true, or_true, true_or, or_false, false_or, s1_ltx, if_true, if_false, Nat.add_zero, Nat.zero_add,  d_leF, d_leT, d_ltF, d_ltT, d_eqF, d_eqT]
      exact h
  · have k2 : k = 2 := by
      have e5 : nI k = nI 2 := e2
      rwa [nI_eq (by omega) (by omega)] at e5
    rw [if_pos k2, decide_eq_false (fun z => z e)] at h
    exact h
  · rw [e0, decide_eq_true (show ¬ x = UK from e)] at h
    simp (disch := omega) only [fa_lit, nI_ltI, nI_leI, nI_eq, nI_add, pk_mul, nI_clamp, vp_in_nI, l_uk, l_n1, l_n1e, l_n1e2, l_n1l, l_n1l2, l_n1l3, not_true_eq_false, not_false_eq_true, true_implies, false_implies, true_and, and_true, and_self, forall_eq, bI_t, bI_f, Bool.false_eq_true, or_true, true_or, or_false, false_or, s1_ltx, if_true, if_false, Nat.add_zero, Nat.zero_add,  d_leF, d_leT, d_ltF, d_ltT, d_eqF, d_eqT]
    refine kO ⟨fun e2 => kO ⟨fun e3 => ?_, fun e3 => p_countOf (by omega) ?_⟩, fun e2 => ?_⟩
    · have k2 : ¬ k = 2 := fun z => e2 (by rw [z])
      have k4 : ¬ k = 4 := fun z => e3 (by rw [z])
      rw [if_neg k2, if_neg (fun z => k4 z.1)] at h
      exact h
    · have k2 : ¬ k = 2 := fun z => e2 (by rw [z])
      have k4 : k = 4 := by rwa [nI_eq (by omega) (by omega)] at e3
      rw [if_neg k2, if_pos ⟨k4, by omega⟩] at h
      exact ⟨fun _ => h, fun _ => h⟩
    · have k2 : k = 2 := by rwa [nI_eq (by omega) (by omega)] at e2
      rw [if_pos k2] at h
      exact h
  · rw [e0, decide_eq_true (show ¬ x = UK from e)] at h
    simp (disch := omega) only [fa_lit, nI_ltI, nI_leI, nI_eq, nI_add, pk_mul, nI_clamp, vp_in_nI, l_uk, l_n1, l_n1e, l_n1e2, l_n1l, l_n1l2, l_n1l3, not_true_eq_false, not_false_eq_true, true_implies, false_implies, true_and, and_true, and_self, forall_eq, bI_t, bI_f, Bool.false_eq_true, or_true, true_or, or_false, false_or, s1_ltx, if_true, if_false, Nat.add_zero, Nat.zero_add,  d_leF, d_leT, d_ltF, d_ltT, d_eqF, d_eqT]
    refine kO ⟨fun e2 => kO ⟨fun e3 => ?_, fun e3 => p_countOf (by omega) ?_⟩, fun e2 => ?_⟩
    · have k2 : ¬ k = 2 := fun z => e2 (by rw [z])
      have k4 : ¬ k = 4 := fun z => e3 (by rw [z])
      rw [if_neg k2, if_neg (fun z => k4 z.1)] at h
      exact h
    · have k2 : ¬ k = 2 := fun z => e2 (by rw [z])
      have k4 : k = 4 := by rwa [nI_eq (by omega) (by omega)] at e3
      rw [hB.1]
      by_cases hl : 0 < B.length
      · rw [if_neg k2, if_pos ⟨k4, hl⟩] at h
        simp (disch := omega) only [fa_lit, nI_ltI, nI_leI, nI_eq, nI_add, pk_mul, nI_clamp, vp_in_nI, l_uk, l_n1, l_n1e, l_n1e2, l_n1l, l_n1l2, l_n1l3, not_true_eq_false, not_false_eq_true, true_implies, false_implies, true_and, and_true, and_self, forall_eq, bI_t, bI_f, Bool.false_eq_true, or_true, true_or, or_false, false_or, s1_ltx, if_true, if_false, Nat.add_zero, Nat.zero_add,  d_leF, d_leT, d_ltF, d_ltT, d_eqF, d_eqT]
        refine ⟨fun e5 => absurd e5 e, fun _ => p_findRow (by omega) hB hd hwb6 (fun i hi e7 => ?_) (fun e7 => ?_)⟩
        · rw [e7] at h
          simp (disch := omega) only [fa_lit, nI_ltI, nI_leI, nI_eq, nI_add, pk_mul, nI_clamp, vp_in_nI, l_uk, l_n1, l_n1e, l_n1e2, l_n1l, l_n1l2, l_n1l3, not_true_eq_false, not_false_eq_true, true_implies, false_implies, true_and, and_true, and_self, forall_eq, bI_t, bI_f, Bool.false_eq_true, or_true, true_or, or_false, false_or, s1_ltx, if_true, if_false, Nat.add_zero, Nat.zero_add,  d_leF, d_leT, d_ltF, d_ltT, d_eqF, d_eqT]
          exact h
        · rw [e7] at h
          simp (disch := omega) only [fa_lit, nI_ltI, nI_leI, nI_eq, nI_add, pk_mul, nI_clamp, vp_in_nI, l_uk, l_n1, l_n1e, l_n1e2, l_n1l, l_n1l2, l_n1l3, not_true_eq_false, not_false_eq_true, true_implies, false_implies, true_and, and_true, and_self, forall_eq, bI_t, bI_f, Bool.false_eq_true, or_true, true_or, or_false, false_or, s1_ltx, if_true, if_false, Nat.add_zero, Nat.zero_add,  d_leF, d_leT, d_ltF, d_ltT, d_eqF, d_eqT]
          exact h
      · rw [if_neg k2, if_neg (fun z => hl z.2)] at h
        simp (disch := omega) only [fa_lit, nI_ltI, nI_leI, nI_eq, nI_add, pk_mul, nI_clamp, vp_in_nI, l_uk, l_n1, l_n1e, l_n1e2, l_n1l, l_n1l2, l_n1l3, not_true_eq_false, not_false_eq_true, true_implies, false_implies, true_and, and_true, and_self, forall_eq, bI_t, bI_f, Bool.false_eq_true, or_true, true_or, or_false, false_or, s1_ltx, if_true, if_false, Nat.add_zero, Nat.zero_add,  d_leF, d_leT, d_ltF, d_ltT, d_eqF, d_eqT]
        exact h
    · have k2 : k = 2 := by rwa [nI_eq (by omega) (by omega)] at e2
      rw [if_pos k2] at h
      exact h
def flT (k c d : Nat) (A B : List (List Int32)) : Nat → List (List Int32)
  | 0 => []
  | i + 1 => if stB k d B ((A.getD i []).getD c UK) then flT k c d A B i ++ [A.getD i []] else flT k c d A B i
theorem flT_le (k c d : Nat) (A B : List (List Int32)) : ∀ i, (flT k c d A B i).length ≤ i
  | 0 => Nat.le_refl 0
  | i + 1 => by
    have := flT_le k c d A B i
    rw [flT]
    split
    · rw [List.length_append]
      show _ + 1 ≤ _
      omega
    · omega
theorem p_fillStaying {I : QI} {T : QT} {P : List Nd} (hP : Pc I P) (hw : Pw T P) {n d wa wb : Nat} {A B : List (List Int32)} (hJ : Jn I P n wa wb A B) (hwa6 : wa ≤ 6) (hwb6 : wb ≤ 6) (hc : (nd P n).2.2.2.2.1 < wa) (hd : d < wb) (hde : (nd P n).2.2.2.2.2.1 = nI d) (hk2 : (nd P n).2.2.2.1 < 5) (hR : Hd I n [] wa) {post : Int32 → QI → Prop} (h : ∀ I2, FA n I I2 → Hd I2 n (flT (nd P n).2.2.2.1 (nd P n).2.2.2.2.1 d A B A.length) wa → post (nI 1) I2) : wX0_fillStaying (nI n) I post := by
  have h24 := hw.1
  have hJ0 := hJ
  obtain ⟨hn, ha, hb0, hb, hA, hB, hwa, hwb⟩ := hJ
  have hA2 := hA.2.1
  unfold wX0_fillStaying
  refine p_firstOf hP hw hn ?_
  refine lp (fun f i (I2 : QI) => wX0_fillStaying_11 (nI n) post f (nI (nd P n).2.1) (nI i) I2) (fun i I2 => FA n I I2 ∧ Hd I2 n (flT (nd P n).2.2.2.1 (nd P n).2.2.2.2.1 d A B i) wa) A.length ?_ ?_ 0 I (Nat.zero_le _) ⟨FA.rf _ _, hR⟩
  · rintro f I2 ⟨hF, hH⟩
    show wX0_fillStaying_11 _ _ _ _ _ _
    rw [wX0_fillStaying_11]
    refine p_countOf (by omega) ?_
    rw [(hA.fa hF (by omega) hwa6).1]
    simp (disch := omega) only [fa_lit, nI_ltI, nI_leI, nI_eq, nI_add, pk_mul, nI_clamp, vp_in_nI, l_uk, l_n1, l_n1e, l_n1e2, l_n1l, l_n1l2, l_n1l3, not_true_eq_false, not_false_eq_true, true_implies, false_implies, true_and, and_true, and_self, forall_eq, bI_t, bI_f, Bool.false_eq_true, or_true, true_or, or_false, false_or, s1_ltx, if_true, if_false, Nat.add_zero, Nat.zero_add,  d_leF, d_leT, d_ltF, d_ltT, d_eqF, d_eqT]
    exact h I2 hF hH
  · rintro f i I2 hi ⟨hF, hH⟩ hk
    show wX0_fillStaying_11 _ _ _ _ _ _
    rw [wX0_fillStaying_11]
    refine p_countOf (by omega) ?_
    have hA3 := hA.fa hF (by omega) hwa6
    have hP2 := hF.pc hP
    rw [hA3.1]
    simp (disch := omega) only [fa_lit, nI_ltI, nI_leI, nI_eq, nI_add, pk_mul, nI_clamp, vp_in_nI, l_uk, l_n1, l_n1e, l_n1e2, l_n1l, l_n1l2, l_n1l3, not_true_eq_false, not_false_eq_true, true_implies, false_implies, true_and, and_true, and_self, forall_eq, bI_t, bI_f, Bool.false_eq_true, or_true, true_or, or_false, false_or, s1_ltx, if_true, if_false, Nat.add_zero, Nat.zero_add,  d_leF, d_leT, d_ltF, d_ltT, d_eqF, d_eqT]
    refine p_columnOf hP2 hw hn ?_
    refine p_valueAt (by omega) hA3 hi hc hwa6 ?_
    refine p_stays hP2 hw (hJ0.fa hF hwa6 hwb6) hwb6 hd hde hk2 ?_
    have e0 := flT_le (nd P n).2.2.2.1 (nd P n).2.2.2.2.1 d A B i
    cases e : stB (nd P n).2.2.2.1 d B ((A.getD i []).getD (nd P n).2.2.2.2.1 UK)
    · simp (disch := omega) only [fa_lit, nI_ltI, nI_leI, nI_eq, nI_add, pk_mul, nI_clamp, vp_in_nI, l_uk, l_n1, l_n1e, l_n1e2, l_n1l, l_n1l2, l_n1l3, not_true_eq_false, not_false_eq_true, true_implies, false_implies, true_and, and_true, and_self, forall_eq, bI_t, bI_f, Bool.false_eq_true, or_true, true_or, or_false, false_or, s1_ltx, if_true, if_false, Nat.add_zero, Nat.zero_add,  d_leF, d_leT, d_ltF, d_ltT, d_eqF, d_eqT]
      refine hk I2 ⟨hF, ?_⟩
      rw [flT, e]
      exact hH
    · simp (disch := omega) only [fa_lit, nI_ltI, nI_leI, nI_eq, nI_add, pk_mul, nI_clamp, vp_in_nI, l_uk, l_n1, l_n1e, l_n1e2, l_n1l, l_n1l2, l_n1l3, not_true_eq_false, not_false_eq_true, true_implies, false_implies, true_and, and_true, and_self, forall_eq, bI_t, bI_f, Bool.false_eq_true, or_true, true_or, or_false, false_or, s1_ltx, if_true, if_false, Nat.add_zero, Nat.zero_add,  d_leF, d_leT, d_ltF, d_ltT, d_eqF, d_eqT]
      refine p_copyRow hP2 hw (by omega) (by omega) (by omega) hA3 hwa hwa6 hi hH (fun _ I5 hF5 hg5 hH5 => ?_) (fun hl => ?_)
      · refine hk I5 ⟨hF.tr hF5, ?_⟩
        rw [flT, e]
        exact hH5
      · omega
