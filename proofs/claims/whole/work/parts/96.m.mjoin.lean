/-! pure: the reference gives joins (whole) -/
theorem ct_all {p : Nat → Bool} : ∀ {n : Nat}, (∀ k, k < n → p k = true) → ct p n = n
  | 0, _ => rfl
  | n + 1, h => by
    rw [ct_s, ct_all (fun k hk => h k (by omega)), h n (by omega)]
    rfl
theorem frw_0 {B : List (List Int32)} {d : Nat} {x : Int32} (hx : ¬ x = UK) : (ct (fun j => isT 0 x ((B.getD j []).getD d UK)) B.length = 0) ↔ frw B d x = none := by
  rw [ct_0]
  constructor
  · intro h
    refine srch_n (fun k hk => ?_)
    have := h k hk
    rw [isT0] at this
    exact decide_eq_false (fun z => of_decide_eq_false this ⟨hx, z⟩)
  · intro h k hk
    have := srch_ni h k hk
    rw [isT0]
    exact decide_eq_false (fun z => of_decide_eq_false this z.2)
theorem isT0_u {B : List (List Int32)} {d : Nat} : ct (fun j => isT 0 UK ((B.getD j []).getD d UK)) B.length = 0 := by
  rw [ct_0]
  intro k hk
  rw [isT0]
  exact decide_eq_false (fun z => z.1 rfl)
theorem stB_2 {B : List (List Int32)} {d : Nat} {x : Int32} : stB 2 d B x = decide (0 < ct (fun j => isT 0 x ((B.getD j []).getD d UK)) B.length) := by
  unfold stB
  rw [if_pos rfl]
  by_cases hx : x = UK
  · subst hx
    rw [isT0_u, decide_eq_false (fun z => z rfl)]
    rfl
  · rw [decide_eq_true (show ¬ x = UK from hx), Bool.true_and]
    cases e : frw B d x with
    | none => rw [(frw_0 hx).mpr e]; rfl
    | some i =>
      have h2 : ¬ ct (fun j => isT 0 x ((B.getD j []).getD d UK)) B.length = 0 := fun z => by
        rw [(frw_0 hx).mp z] at e
        cases e
      exact (decide_eq_true (by omega)).symm
theorem stB_3 {B : List (List Int32)} {d : Nat} {x : Int32} : stB 3 d B x = decide (ct (fun j => isT 0 x ((B.getD j []).getD d UK)) B.length = 0) := by
  unfold stB
  rw [if_neg (by omega), if_neg (by omega)]
  by_cases hx : x = UK
  · subst hx
    rw [isT0_u, decide_eq_false (fun z => z rfl)]
    rfl
  · rw [decide_eq_true (show ¬ x = UK from hx), Bool.true_and]
    cases e : frw B d x with
    | none => rw [(frw_0 hx).mpr e]; rfl
    | some i =>
      have h2 : ¬ ct (fun j => isT 0 x ((B.getD j []).getD d UK)) B.length = 0 := fun z => by
        rw [(frw_0 hx).mp z] at e
        cases e
      exact (decide_eq_false h2).symm
theorem stB_4 {B : List (List Int32)} {d : Nat} {x : Int32} : stB 4 d B x = decide (ct (fun j => isT 1 x ((B.getD j []).getD d UK)) B.length = B.length) := by
  unfold stB
  rw [if_neg (by omega)]
  by_cases hl : 0 < B.length
  · rw [if_pos ⟨rfl, hl⟩]
    by_cases hx : x = UK
    · rw [decide_eq_false (fun z => z hx)]
      refine (decide_eq_false (fun z => ?_)).symm
      have := ct_full (Nat.le_of_eq z.symm) 0 hl
      rw [isT1] at this
      exact (of_decide_eq_true this).1 hx
    · rw [decide_eq_true (show ¬ x = UK from hx), Bool.true_and]
      cases e : frw B d x with
      | none =>
        cases e2 : frw B d UK with
        | none =>
          refine (decide_eq_true (ct_all (fun k hk => ?_))).symm
          have a1 := of_decide_eq_false (srch_ni e k hk)
          have a2 := of_decide_eq_false (srch_ni e2 k hk)
          rw [isT1]
          exact decide_eq_true ⟨hx, a2, fun z => a1 z.symm⟩
        | some i =>
          obtain ⟨i1, i2, i3⟩ := srch_si e2
          refine (decide_eq_false (fun z => ?_)).symm
          have := ct_full (Nat.le_of_eq z.symm) i i1
          rw [isT1] at this
          exact (of_decide_eq_true this).2.1 (of_decide_eq_true i2)
      | some i =>
        obtain ⟨i1, i2, i3⟩ := srch_si e
        refine (decide_eq_false (fun z => ?_)).symm
        have := ct_full (Nat.le_of_eq z.symm) i i1
        rw [isT1] at this
        exact (of_decide_eq_true this).2.2 (of_decide_eq_true i2).symm
  · rw [if_neg (fun z => hl z.2)]
    have e0 : B.length = 0 := by omega
    have e1 : frw B d x = none := srch_n (fun k hk => by omega)
    rw [e1, e0]
    simp [ct]
theorem prR_jM {k c d wb : Nat} {B : List (List Int32)} {X : List Int32} (hk : k < 2) : prR k c d wb B X = if jM k d B X (X.getD c UK) B.length = [] ∧ k ≠ 0 then [X ++ uks wb] else jM k d B X (X.getD c UK) B.length := by
  have e : jM k d B X (X.getD c UK) B.length = if X.getD c UK = UK then [] else prN B d X (X.getD c UK) B.length := by
    unfold jM
    by_cases h : X.getD c UK = UK
    · rw [if_pos (Or.inl h), if_pos h]
    · rw [if_neg (fun z => z.elim h (fun z => by omega)), if_neg h]
  rw [e]
  rfl
theorem prR_l {k c d wb : Nat} {B : List (List Int32)} {X : List Int32} (hk : k < 2) : (prR k c d wb B X).length ≤ B.length + 1 := by
  rw [prR_jM hk]
  have := jM_l (k := k) (d := d) (B := B) (X := X) (x := X.getD c UK) B.length
  split
  · show 1 ≤ _
    omega
  · omega
theorem flJ_l {k c d wb : Nat} {A B : List (List Int32)} (hk : k < 2) (hB : B.length ≤ 200) : ∀ i, (flJ k c d wb A B i).length ≤ i * 201
  | 0 => Nat.le_refl 0
  | i + 1 => by
    have := flJ_l (c := c) (d := d) (wb := wb) (A := A) hk hB i
    have h2 := prR_l (c := c) (d := d) (wb := wb) (B := B) (X := A.getD i []) hk
    rw [flJ, List.length_append, Nat.succ_mul]
    omega
theorem m_giveJoin_s {I : QI} {T : QT} {P : List Nd} (hP : Pm I P) (hw : Pw T P) {n d wa wb w k : Nat} {A B : List (List Int32)} (hJ : Jm I P n wa wb A B) (h1 : (nd P n).1 = 2) (hkk : (nd P n).2.2.2.1 = k) (hwn : (nd P n).2.2.2.2.2.2 = w) (hww : w = wa + wb) (hw6 : w ≤ 6) (hc : (nd P n).2.2.2.2.1 < wa) (hd : d < wb) (hde : (nd P n).2.2.2.2.2.1 = nI d) (hk2 : k < 2) (hR : Hm I n [] w) {post : QI → Prop} (h : ∀ I2, FM n I I2 → Hm I2 n (flJ k (nd P n).2.2.2.2.1 d wb A B A.length) w → post I2) : wX8_giveJoin (nI n) I post := by
  have h24 := hw.1
  have hJ0 := hJ
  obtain ⟨hn, ha, hb0, hb, hA, hB, hwa2, hwb, lA, lB, wa6, wb6⟩ := hJ
  have o3e : o3 (nd P n) = nI k := by unfold o3; rw [if_pos h1, hkk]
  have e9 : sB (nd P n).2.2.1 = nI ((nd P n).2.2.1 - 1) := if_neg hb0
  have q0 := hP.2 n hn
  unfold wX8_giveJoin
  simp (disch := omega) only [q0.2.1, q0.2.2.1, q0.2.2.2.2.2.1, o3e, e9, fa_lit, nI_ltI, nI_leI, nI_eq, nI_add, pk_mul, nI_clamp, vp_in_nI, l_uk, l_n1, l_n1e, l_n1e2, l_n1l, l_n1l2, l_n1l3, not_true_eq_false, not_false_eq_true, true_implies, false_implies, true_and, and_true, and_self, forall_eq, bI_t, bI_f, Bool.false_eq_true, or_true, true_or, or_false, false_or, s1_ltx, if_true, if_false, Nat.add_zero, Nat.zero_add,  d_leF, d_leT, d_ltF, d_ltT, d_eqF, d_eqT]
  refine lp (fun f i (I2 : QI) => wX8_giveJoin_25 (nI n) post f (nI (nd P n).2.1) (nI ((nd P n).2.2.1 - 1)) (nI k) (nI i) I2) (fun i I2 => FM n I I2 ∧ Hm I2 n (flJ k (nd P n).2.2.2.2.1 d wb A B i) w) A.length ?_ ?_ 0 I (Nat.zero_le _) ⟨FM.rf _ _, hR⟩
  · rintro f I2 ⟨hF, hH⟩
    show wX8_giveJoin_25 _ _ _ _ _ _ _ _
    rw [wX8_giveJoin_25]
    simp (disch := omega) only [((hJ0.fa hF).2.2.2.2.1).1, fa_lit, nI_ltI, nI_leI, nI_eq, nI_add, pk_mul, nI_clamp, vp_in_nI, l_uk, l_n1, l_n1e, l_n1e2, l_n1l, l_n1l2, l_n1l3, not_true_eq_false, not_false_eq_true, true_implies, false_implies, true_and, and_true, and_self, forall_eq, bI_t, bI_f, Bool.false_eq_true, or_true, true_or, or_false, false_or, s1_ltx, if_true, if_false, Nat.add_zero, Nat.zero_add,  d_leF, d_leT, d_ltF, d_ltT, d_eqF, d_eqT]
    exact h I2 hF hH
  · rintro f i I2 hi ⟨hF, hH⟩ hk
    have l9 := flJ_l (c := (nd P n).2.2.2.2.1) (d := d) (wb := wb) (A := A) hk2 lB i
    show wX8_giveJoin_25 _ _ _ _ _ _ _ _
    rw [wX8_giveJoin_25]
    have hkn : ∀ I3 : QI, FM n I I3 → Hm I3 n (flJ k (nd P n).2.2.2.2.1 d wb A B i ++ prR k (nd P n).2.2.2.2.1 d wb B (A.getD i [])) w → wX8_giveJoin_25 (nI n) post f (nI (nd P n).2.1) (nI ((nd P n).2.2.1 - 1)) (nI k) (nI (i + 1)) I3 := fun I3 a b => hk I3 ⟨a, b⟩
    rw [prR_jM hk2] at hkn
    rcases (show k = 0 ∨ k = 1 by omega) with rfl | rfl
    · simp (disch := omega) only [((hJ0.fa hF).2.2.2.2.1).1, fa_lit, nI_ltI, nI_leI, nI_eq, nI_add, pk_mul, nI_clamp, vp_in_nI, l_uk, l_n1, l_n1e, l_n1e2, l_n1l, l_n1l2, l_n1l3, not_true_eq_false, not_false_eq_true, true_implies, false_implies, true_and, and_true, and_self, forall_eq, bI_t, bI_f, Bool.false_eq_true, or_true, true_or, or_false, false_or, s1_ltx, if_true, if_false, Nat.add_zero, Nat.zero_add,  d_leF, d_leT, d_ltF, d_ltT, d_eqF, d_eqT]
      refine m_giveJoin_45 (hF.pm hP) hw (hJ0.fa hF) h1 hkk hwn (fun _ => hww) hw6 hi hc hd hde (by omega) hH (by omega) (fun I3 hF3 hH3 => ?_)
      simp (disch := omega) only [fa_lit, nI_ltI, nI_leI, nI_eq, nI_add, pk_mul, nI_clamp, vp_in_nI, l_uk, l_n1, l_n1e, l_n1e2, l_n1l, l_n1l2, l_n1l3, not_true_eq_false, not_false_eq_true, true_implies, false_implies, true_and, and_true, and_self, forall_eq, bI_t, bI_f, Bool.false_eq_true, or_true, true_or, or_false, false_or, s1_ltx, if_true, if_false, Nat.add_zero, Nat.zero_add,  d_leF, d_leT, d_ltF, d_ltT, d_eqF, d_eqT]
      refine hkn I3 (hF.tr hF3) ?_
      rw [if_neg (fun z => z.2 rfl)]
      exact hH3
    · simp (disch := omega) only [((hJ0.fa hF).2.2.2.2.1).1, fa_lit, nI_ltI, nI_leI, nI_eq, nI_add, pk_mul, nI_clamp, vp_in_nI, l_uk, l_n1, l_n1e, l_n1e2, l_n1l, l_n1l2, l_n1l3, not_true_eq_false, not_false_eq_true, true_implies, false_implies, true_and, and_true, and_self, forall_eq, bI_t, bI_f, Bool.false_eq_true, or_true, true_or, or_false, false_or, s1_ltx, if_true, if_false, Nat.add_zero, Nat.zero_add,  d_leF, d_leT, d_ltF, d_ltT, d_eqF, d_eqT]
      refine m_giveJoin_45 (hF.pm hP) hw (hJ0.fa hF) h1 hkk hwn (fun _ => hww) hw6 hi hc hd hde (by omega) hH (by omega) (fun I3 hF3 hH3 => ?_)
      have j0 := jM_0 (d := d) (B := B) (X := A.getD i []) (x := (A.getD i []).getD (nd P n).2.2.2.2.1 UK) hk2 B.length
      have c9 := ct_le (fun j => isT 0 ((A.getD i []).getD (nd P n).2.2.2.2.1 UK) ((B.getD j []).getD d UK)) B.length
      have hF9 := hF.tr hF3
      by_cases e : ct (fun j => isT 0 ((A.getD i []).getD (nd P n).2.2.2.2.1 UK) ((B.getD j []).getD d UK)) B.length = 0
      · rw [if_pos ⟨j0.mp e, by decide⟩] at hkn
        rw [j0.mp e, List.append_nil] at hH3
        rw [e]
        simp (disch := omega) only [fa_lit, nI_ltI, nI_leI, nI_eq, nI_add, pk_mul, nI_clamp, vp_in_nI, l_uk, l_n1, l_n1e, l_n1e2, l_n1l, l_n1l2, l_n1l3, not_true_eq_false, not_false_eq_true, true_implies, false_implies, true_and, and_true, and_self, forall_eq, bI_t, bI_f, Bool.false_eq_true, or_true, true_or, or_false, false_or, s1_ltx, if_true, if_false, Nat.add_zero, Nat.zero_add,  d_leF, d_leT, d_ltF, d_ltT, d_eqF, d_eqT]
        refine m_alone (k := 0) (hF9.pm hP) hw (hJ0.fa hF9) hwn (by omega) hw6 hi hH3 (by omega) (fun I4 e64 hF4 hH4 => ?_)
        rw [show w - wa = wb by omega] at hH4
        simp (disch := omega) only [e64, fa_lit, nI_ltI, nI_leI, nI_eq, nI_add, pk_mul, nI_clamp, vp_in_nI, l_uk, l_n1, l_n1e, l_n1e2, l_n1l, l_n1l2, l_n1l3, not_true_eq_false, not_false_eq_true, true_implies, false_implies, true_and, and_true, and_self, forall_eq, bI_t, bI_f, Bool.false_eq_true, or_true, true_or, or_false, false_or, s1_ltx, if_true, if_false, Nat.add_zero, Nat.zero_add,  d_leF, d_leT, d_ltF, d_ltT, d_eqF, d_eqT]
        exact hkn _ (hF9.tr hF4) hH4
      · rw [if_neg (fun z => e (j0.mpr z.1))] at hkn
        simp (disch := omega) only [fa_lit, nI_ltI, nI_leI, nI_eq, nI_add, pk_mul, nI_clamp, vp_in_nI, l_uk, l_n1, l_n1e, l_n1e2, l_n1l, l_n1l2, l_n1l3, not_true_eq_false, not_false_eq_true, true_implies, false_implies, true_and, and_true, and_self, forall_eq, bI_t, bI_f, Bool.false_eq_true, or_true, true_or, or_false, false_or, s1_ltx, if_true, if_false, Nat.add_zero, Nat.zero_add,  d_leF, d_leT, d_ltF, d_ltT, d_eqF, d_eqT]
        exact hkn I3 hF9 hH3
theorem m_giveJoin_t {I : QI} {T : QT} {P : List Nd} (hP : Pm I P) (hw : Pw T P) {n d wa wb w k : Nat} {A B : List (List Int32)} (hJ : Jm I P n wa wb A B) (h1 : (nd P n).1 = 2) (hkk : (nd P n).2.2.2.1 = k) (hwn : (nd P n).2.2.2.2.2.2 = w) (hww : w = wa) (hc : (nd P n).2.2.2.2.1 < wa) (hd : d < wb) (hde : (nd P n).2.2.2.2.2.1 = nI d) (hk2 : 2 ≤ k) (hk5 : k < 5) (hR : Hm I n [] w) {post : QI → Prop} (h : ∀ I2, FM n I I2 → Hm I2 n (flT k (nd P n).2.2.2.2.1 d A B A.length) w → post I2) : wX8_giveJoin (nI n) I post := by
  have h24 := hw.1
  have hJ0 := hJ
  obtain ⟨hn, ha, hb0, hb, hA, hB, hwa2, hwb, lA, lB, wa6, wb6⟩ := hJ
  have o3e : o3 (nd P n) = nI k := by unfold o3; rw [if_pos h1, hkk]
  have e9 : sB (nd P n).2.2.1 = nI ((nd P n).2.2.1 - 1) := if_neg hb0
  have q0 := hP.2 n hn
  unfold wX8_giveJoin
  simp (disch := omega) only [q0.2.1, q0.2.2.1, q0.2.2.2.2.2.1, o3e, e9, fa_lit, nI_ltI, nI_leI, nI_eq, nI_add, pk_mul, nI_clamp, vp_in_nI, l_uk, l_n1, l_n1e, l_n1e2, l_n1l, l_n1l2, l_n1l3, not_true_eq_false, not_false_eq_true, true_implies, false_implies, true_and, and_true, and_self, forall_eq, bI_t, bI_f, Bool.false_eq_true, or_true, true_or, or_false, false_or, s1_ltx, if_true, if_false, Nat.add_zero, Nat.zero_add,  d_leF, d_leT, d_ltF, d_ltT, d_eqF, d_eqT]
  refine lp (fun f i (I2 : QI) => wX8_giveJoin_25 (nI n) post f (nI (nd P n).2.1) (nI ((nd P n).2.2.1 - 1)) (nI k) (nI i) I2) (fun i I2 => FM n I I2 ∧ Hm I2 n (flT k (nd P n).2.2.2.2.1 d A B i) w) A.length ?_ ?_ 0 I (Nat.zero_le _) ⟨FM.rf _ _, hR⟩
  · rintro f I2 ⟨hF, hH⟩
    show wX8_giveJoin_25 _ _ _ _ _ _ _ _
    rw [wX8_giveJoin_25]
    simp (disch := omega) only [((hJ0.fa hF).2.2.2.2.1).1, fa_lit, nI_ltI, nI_leI, nI_eq, nI_add, pk_mul, nI_clamp, vp_in_nI, l_uk, l_n1, l_n1e, l_n1e2, l_n1l, l_n1l2, l_n1l3, not_true_eq_false, not_false_eq_true, true_implies, false_implies, true_and, and_true, and_self, forall_eq, bI_t, bI_f, Bool.false_eq_true, or_true, true_or, or_false, false_or, s1_ltx, if_true, if_false, Nat.add_zero, Nat.zero_add,  d_leF, d_leT, d_ltF, d_ltT, d_eqF, d_eqT]
    exact h I2 hF hH
  · rintro f i I2 hi ⟨hF, hH⟩ hk
    have l9 := flT_le k (nd P n).2.2.2.2.1 d A B i
    show wX8_giveJoin_25 _ _ _ _ _ _ _ _
    rw [wX8_giveJoin_25]
    have hkn : ∀ I3 : QI, FM n I I3 → Hm I3 n (if stB k d B ((A.getD i []).getD (nd P n).2.2.2.2.1 UK) = true then flT k (nd P n).2.2.2.2.1 d A B i ++ [A.getD i []] else flT k (nd P n).2.2.2.2.1 d A B i) w → wX8_giveJoin_25 (nI n) post f (nI (nd P n).2.1) (nI ((nd P n).2.2.1 - 1)) (nI k) (nI (i + 1)) I3 := fun I3 a b => hk I3 ⟨a, b⟩
    have c0 := ct_le (fun j => isT 0 ((A.getD i []).getD (nd P n).2.2.2.2.1 UK) ((B.getD j []).getD d UK)) B.length
    have c1 := ct_le (fun j => isT 1 ((A.getD i []).getD (nd P n).2.2.2.2.1 UK) ((B.getD j []).getD d UK)) B.length
    have hj : ∀ {m : Nat}, jM k d B (A.getD i []) ((A.getD i []).getD (nd P n).2.2.2.2.1 UK) m = [] := fun {m} => if_pos (Or.inr hk2)
    have hu : ∀ X : List Int32, X ++ uks (w - wa) = X := fun X => by
      rw [show w - wa = 0 by omega]
      exact List.append_nil X
    rcases (show k = 2 ∨ k = 3 ∨ k = 4 by omega) with rfl | rfl | rfl
    · simp (disch := omega) only [((hJ0.fa hF).2.2.2.2.1).1, fa_lit, nI_ltI, nI_leI, nI_eq, nI_add, pk_mul, nI_clamp, vp_in_nI, l_uk, l_n1, l_n1e, l_n1e2, l_n1l, l_n1l2, l_n1l3, not_true_eq_false, not_false_eq_true, true_implies, false_implies, true_and, and_true, and_self, forall_eq, bI_t, bI_f, Bool.false_eq_true, or_true, true_or, or_false, false_or, s1_ltx, if_true, if_false, Nat.add_zero, Nat.zero_add,  d_leF, d_leT, d_ltF, d_ltT, d_eqF, d_eqT]
      refine m_giveJoin_45 (hF.pm hP) hw (hJ0.fa hF) h1 hkk hwn (fun z => by omega) (by omega) hi hc hd hde (by omega) hH (by omega) (fun I3 hF3 hH3 => ?_)
      rw [hj, List.append_nil] at hH3
      have hF9 := hF.tr hF3
      rw [stB_2] at hkn
      by_cases e : 0 < ct (fun j => isT 0 ((A.getD i []).getD (nd P n).2.2.2.2.1 UK) ((B.getD j []).getD d UK)) B.length
      · rw [if_pos (decide_eq_true e)] at hkn
        simp (disch := omega) only [fa_lit, nI_ltI, nI_leI, nI_eq, nI_add, pk_mul, nI_clamp, vp_in_nI, l_uk, l_n1, l_n1e, l_n1e2, l_n1l, l_n1l2, l_n1l3, not_true_eq_false, not_false_eq_true, true_implies, false_implies, true_and, and_true, and_self, forall_eq, bI_t, bI_f, Bool.false_eq_true, or_true, true_or, or_false, false_or, s1_ltx, if_true, if_false, Nat.add_zero, Nat.zero_add,  d_leF, d_leT, d_ltF, d_ltT, d_eqF, d_eqT]
        refine m_alone (k := 0) (hF9.pm hP) hw (hJ0.fa hF9) hwn (by omega) (by omega) hi hH3 (by omega) (fun I4 e64 hF4 hH4 => ?_)
        rw [hu] at hH4
        simp (disch := omega) only [e64, fa_lit, nI_ltI, nI_leI, nI_eq, nI_add, pk_mul, nI_clamp, vp_in_nI, l_uk, l_n1, l_n1e, l_n1e2, l_n1l, l_n1l2, l_n1l3, not_true_eq_false, not_false_eq_true, true_implies, false_implies, true_and, and_true, and_self, forall_eq, bI_t, bI_f, Bool.false_eq_true, or_true, true_or, or_false, false_or, s1_ltx, if_true, if_false, Nat.add_zero, Nat.zero_add,  d_leF, d_leT, d_ltF, d_ltT, d_eqF, d_eqT]
        exact hkn _ (hF9.tr hF4) hH4
      · rw [if_neg (fun z => e (of_decide_eq_true z))] at hkn
        simp (disch := omega) only [fa_lit, nI_ltI, nI_leI, nI_eq, nI_add, pk_mul, nI_clamp, vp_in_nI, l_uk, l_n1, l_n1e, l_n1e2, l_n1l, l_n1l2, l_n1l3, not_true_eq_false, not_false_eq_true, true_implies, false_implies, true_and, and_true, and_self, forall_eq, bI_t, bI_f, Bool.false_eq_true, or_true, true_or, or_false, false_or, s1_ltx, if_true, if_false, Nat.add_zero, Nat.zero_add,  d_leF, d_leT, d_ltF, d_ltT, d_eqF, d_eqT]
        exact hkn I3 hF9 hH3
    · simp (disch := omega) only [((hJ0.fa hF).2.2.2.2.1).1, fa_lit, nI_ltI, nI_leI, nI_eq, nI_add, pk_mul, nI_clamp, vp_in_nI, l_uk, l_n1, l_n1e, l_n1e2, l_n1l, l_n1l2, l_n1l3, not_true_eq_false, not_false_eq_true, true_implies, false_implies, true_and, and_true, and_self, forall_eq, bI_t, bI_f, Bool.false_eq_true, or_true, true_or, or_false, false_or, s1_ltx, if_true, if_false, Nat.add_zero, Nat.zero_add,  d_leF, d_leT, d_ltF, d_ltT, d_eqF, d_eqT]
      refine m_giveJoin_45 (hF.pm hP) hw (hJ0.fa hF) h1 hkk hwn (fun z => by omega) (by omega) hi hc hd hde (by omega) hH (by omega) (fun I3 hF3 hH3 => ?_)
      rw [hj, List.append_nil] at hH3
      have hF9 := hF.tr hF3
      rw [stB_3] at hkn
      by_cases e : ct (fun j => isT 0 ((A.getD i []).getD (nd P n).2.2.2.2.1 UK) ((B.getD j []).getD d UK)) B.length = 0
      · rw [if_pos (decide_eq_true e)] at hkn
        rw [e]
        simp (disch := omega) only [fa_lit, nI_ltI, nI_leI, nI_eq, nI_add, pk_mul, nI_clamp, vp_in_nI, l_uk, l_n1, l_n1e, l_n1e2, l_n1l, l_n1l2, l_n1l3, not_true_eq_false, not_false_eq_true, true_implies, false_implies, true_and, and_true, and_self, forall_eq, bI_t, bI_f, Bool.false_eq_true, or_true, true_or, or_false, false_or, s1_ltx, if_true, if_false, Nat.add_zero, Nat.zero_add,  d_leF, d_leT, d_ltF, d_ltT, d_eqF, d_eqT]
        refine m_alone (k := 0) (hF9.pm hP) hw (hJ0.fa hF9) hwn (by omega) (by omega) hi hH3 (by omega) (fun I4 e64 hF4 hH4 => ?_)
        rw [hu] at hH4
        simp (disch := omega) only [e64, fa_lit, nI_ltI, nI_leI, nI_eq, nI_add, pk_mul, nI_clamp, vp_in_nI, l_uk, l_n1, l_n1e, l_n1e2, l_n1l, l_n1l2, l_n1l3, not_true_eq_false, not_false_eq_true, true_implies, false_implies, true_and, and_true, and_self, forall_eq, bI_t, bI_f, Bool.false_eq_true, or_true, true_or, or_false, false_or, s1_ltx, if_true, if_false, Nat.add_zero, Nat.zero_add,  d_leF, d_leT, d_ltF, d_ltT, d_eqF, d_eqT]
        exact hkn _ (hF9.tr hF4) hH4
      · rw [if_neg (fun z => e (of_decide_eq_true z))] at hkn
        simp (disch := omega) only [fa_lit, nI_ltI, nI_leI, nI_eq, nI_add, pk_mul, nI_clamp, vp_in_nI, l_uk, l_n1, l_n1e, l_n1e2, l_n1l, l_n1l2, l_n1l3, not_true_eq_false, not_false_eq_true, true_implies, false_implies, true_and, and_true, and_self, forall_eq, bI_t, bI_f, Bool.false_eq_true, or_true, true_or, or_false, false_or, s1_ltx, if_true, if_false, Nat.add_zero, Nat.zero_add,  d_leF, d_leT, d_ltF, d_ltT, d_eqF, d_eqT]
        exact hkn I3 hF9 hH3
    · simp (disch := omega) only [((hJ0.fa hF).2.2.2.2.1).1, fa_lit, nI_ltI, nI_leI, nI_eq, nI_add, pk_mul, nI_clamp, vp_in_nI, l_uk, l_n1, l_n1e, l_n1e2, l_n1l, l_n1l2, l_n1l3, not_true_eq_false, not_false_eq_true, true_implies, false_implies, true_and, and_true, and_self, forall_eq, bI_t, bI_f, Bool.false_eq_true, or_true, true_or, or_false, false_or, s1_ltx, if_true, if_false, Nat.add_zero, Nat.zero_add,  d_leF, d_leT, d_ltF, d_ltT, d_eqF, d_eqT]
      refine m_giveJoin_45 (hF.pm hP) hw (hJ0.fa hF) h1 hkk hwn (fun z => by omega) (by omega) hi hc hd hde (by omega) hH (by omega) (fun I3 hF3 hH3 => ?_)
      rw [hj, List.append_nil] at hH3
      have hF9 := hF.tr hF3
      rw [stB_4] at hkn
      by_cases e : ct (fun j => isT 1 ((A.getD i []).getD (nd P n).2.2.2.2.1 UK) ((B.getD j []).getD d UK)) B.length = B.length
      · rw [if_pos (decide_eq_true e)] at hkn
        rw [e]
        simp (disch := omega) only [((hJ0.fa hF9).2.2.2.2.2.1).1, fa_lit, nI_ltI, nI_leI, nI_eq, nI_add, pk_mul, nI_clamp, vp_in_nI, l_uk, l_n1, l_n1e, l_n1e2, l_n1l, l_n1l2, l_n1l3, not_true_eq_false, not_false_eq_true, true_implies, false_implies, true_and, and_true, and_self, forall_eq, bI_t, bI_f, Bool.false_eq_true, or_true, true_or, or_false, false_or, s1_ltx, if_true, if_false, Nat.add_zero, Nat.zero_add,  d_leF, d_leT, d_ltF, d_ltT, d_eqF, d_eqT]
        refine m_alone (k := 0) (hF9.pm hP) hw (hJ0.fa hF9) hwn (by omega) (by omega) hi hH3 (by omega) (fun I4 e64 hF4 hH4 => ?_)
        rw [hu] at hH4
        simp (disch := omega) only [e64, fa_lit, nI_ltI, nI_leI, nI_eq, nI_add, pk_mul, nI_clamp, vp_in_nI, l_uk, l_n1, l_n1e, l_n1e2, l_n1l, l_n1l2, l_n1l3, not_true_eq_false, not_false_eq_true, true_implies, false_implies, true_and, and_true, and_self, forall_eq, bI_t, bI_f, Bool.false_eq_true, or_true, true_or, or_false, false_or, s1_ltx, if_true, if_false, Nat.add_zero, Nat.zero_add,  d_leF, d_leT, d_ltF, d_ltT, d_eqF, d_eqT]
        exact hkn _ (hF9.tr hF4) hH4
      · rw [if_neg (fun z => e (of_decide_eq_true z))] at hkn
        simp (disch := omega) only [((hJ0.fa hF9).2.2.2.2.2.1).1, fa_lit, nI_ltI, nI_leI, nI_eq, nI_add, pk_mul, nI_clamp, vp_in_nI, l_uk, l_n1, l_n1e, l_n1e2, l_n1l, l_n1l2, l_n1l3, not_true_eq_false, not_false_eq_true, true_implies, false_implies, true_and, and_true, and_self, forall_eq, bI_t, bI_f, Bool.false_eq_true, or_true, true_or, or_false, false_or, s1_ltx, if_true, if_false, Nat.add_zero, Nat.zero_add,  d_leF, d_leT, d_ltF, d_ltT, d_eqF, d_eqT]
        exact hkn I3 hF9 hH3
