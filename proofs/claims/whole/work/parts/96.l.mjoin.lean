/-! pure: the reference gives joins -/
theorem isT0 (x y : Int32) : isT 0 x y = decide (¬ x = UK ∧ y = x) := by
  unfold isT hol
  rw [if_neg (by omega), if_neg (by omega), if_pos rfl]
  by_cases e : x = UK
  · simp [e]
  · by_cases e2 : y = x
    · subst e2
      simp [e]
    · have e3 : ¬ x = y := fun z => e2 z.symm
      simp [e, e2, e3]
theorem isT1 (x y : Int32) : isT 1 x y = decide (¬ x = UK ∧ ¬ y = UK ∧ ¬ x = y) := by
  unfold isT hol
  rw [if_neg (by omega), if_neg (by omega), if_neg (by omega), if_pos rfl]
  by_cases e : x = UK
  · simp [e]
  · by_cases e2 : y = UK
    · simp [e, e2]
    · simp [e, e2]
def jM (k d : Nat) (B : List (List Int32)) (X : List Int32) (x : Int32) (j : Nat) : List (List Int32) := if x = UK ∨ 2 ≤ k then [] else prN B d X x j
theorem jM_t {k d : Nat} {B : List (List Int32)} {X : List Int32} {x : Int32} {j : Nat} (hk : k < 2) (h : isT 0 x ((B.getD j []).getD d UK) = true) : jM k d B X x (j + 1) = jM k d B X x j ++ [X ++ B.getD j []] := by
  rw [isT0] at h
  have h2 := of_decide_eq_true h
  unfold jM
  rw [if_neg (fun z => z.elim h2.1 (fun z => by omega)), if_neg (fun z => z.elim h2.1 (fun z => by omega)), prN, if_pos h2.2]
theorem jM_f {k d : Nat} {B : List (List Int32)} {X : List Int32} {x : Int32} {j : Nat} (h : isT 0 x ((B.getD j []).getD d UK) = false ∨ 2 ≤ k) : jM k d B X x (j + 1) = jM k d B X x j := by
  unfold jM
  by_cases e : x = UK ∨ 2 ≤ k
  · rw [if_pos e, if_pos e]
  · rw [if_neg e, if_neg e, prN, if_neg]
    intro e2
    rcases h with h | h
    · rw [isT0] at h
      exact of_decide_eq_false h ⟨fun z => e (Or.inl z), e2⟩
    · exact e (Or.inr h)
theorem jM_z {k d : Nat} {B : List (List Int32)} {X : List Int32} {x : Int32} : jM k d B X x 0 = [] := by
  unfold jM
  split <;> rfl
theorem jM_l {k d : Nat} {B : List (List Int32)} {X : List Int32} {x : Int32} : ∀ j, (jM k d B X x j).length ≤ j
  | 0 => by rw [jM_z]; exact Nat.le_refl 0
  | j + 1 => by
    have := jM_l (k := k) (d := d) (B := B) (X := X) (x := x) j
    by_cases h : isT 0 x ((B.getD j []).getD d UK) = true ∧ k < 2
    · rw [jM_t h.2 h.1, List.length_append]
      show _ + 1 ≤ _
      omega
    · rw [jM_f]
      · omega
      · by_cases h2 : k < 2
        · exact Or.inl (by cases e : isT 0 x ((B.getD j []).getD d UK) <;> simp_all)
        · exact Or.inr (by omega)
theorem jM_0 {k d : Nat} {B : List (List Int32)} {X : List Int32} {x : Int32} (hk : k < 2) : ∀ j, ct (fun j => isT 0 x ((B.getD j []).getD d UK)) j = 0 ↔ jM k d B X x j = []
  | 0 => by rw [jM_z]; exact ⟨fun _ => rfl, fun _ => rfl⟩
  | j + 1 => by
    have ih := jM_0 (d := d) (B := B) (X := X) (x := x) hk j
    rw [ct_s]
    cases e : isT 0 x ((B.getD j []).getD d UK)
    · rw [jM_f (Or.inl e)]
      simpa using ih
    · rw [jM_t hk e]
      simp
/-- a join's parts, as the reference keeps them -/
def Jm (I : QI) (P : List Nd) (n wa wb : Nat) (A B : List (List Int32)) : Prop := n < P.length ∧ (nd P n).2.1 < n ∧ (nd P n).2.2.1 ≠ 0 ∧ (nd P n).2.2.1 - 1 < n ∧ Hm I (nd P n).2.1 A wa ∧ Hm I ((nd P n).2.2.1 - 1) B wb ∧ (nd P (nd P n).2.1).2.2.2.2.2.2 = wa ∧ (nd P ((nd P n).2.2.1 - 1)).2.2.2.2.2.2 = wb ∧ A.length ≤ 200 ∧ B.length ≤ 200 ∧ wa ≤ 6 ∧ wb ≤ 6
theorem Jm.fa {I I2 : QI} {P : List Nd} {n wa wb : Nat} {A B : List (List Int32)} (h : Jm I P n wa wb A B) (hF : FM n I I2) : Jm I2 P n wa wb A B := by
  obtain ⟨h1, h2, h3, h4, h5, h6, h7, h8, h9, h10, h11, h12⟩ := h
  exact ⟨h1, h2, h3, h4, h5.fa hF (by omega) h11, h6.fa hF (by omega) h12, h7, h8, h9, h10, h11, h12⟩
theorem m_giveJoin_275 {I I2 : QI} {P : List Nd} (hP : Pm I P) {n len wa w : Nat} {g : Nat → Int32} (h : Wm I I2 n len wa g) (hn : n < P.length) (h24 : P.length ≤ 24) (hl : I 64 n = nI len) (hl2 : len < 2 ^ 30) (hwn : (nd P n).2.2.2.2.2.2 = w) (hwa : wa ≤ w) (hw6 : w ≤ 6) (hg : ∀ c, wa ≤ c → c < w → g c = UK) {x2 x3 x4 x5 : Int32} {K : Int32 → Int32 → Int32 → Int32 → QI → Prop} {post : QI → Prop} (kk : ∀ I3, Wm I I3 n len w g → K x2 x3 x4 x5 I3) : ∃ f, wX8_giveJoin_275 (nI n) K post f x2 x3 x4 x5 (nI wa) I2 := by
  refine lp (fun f i (I3 : QI) => wX8_giveJoin_275 (nI n) K post f x2 x3 x4 x5 (nI i) I3) (fun i I3 => wa ≤ i ∧ Wm I I3 n len i g) w ?_ ?_ wa I2 hwa ⟨Nat.le_refl _, h⟩
  · rintro f I3 ⟨h0, hW⟩
    have q := (hW.pm hP).2 n hn
    show wX8_giveJoin_275 _ _ _ _ _ _ _ _ _ _
    rw [wX8_giveJoin_275]
    simp (disch := omega) only [q.2.2.2.2.2.2, hwn, fa_lit, nI_ltI, nI_leI, nI_eq, nI_add, pk_mul, nI_clamp, vp_in_nI, l_uk, l_n1, l_n1e, l_n1e2, l_n1l, l_n1l2, l_n1l3, not_true_eq_false, not_false_eq_true, true_implies, false_implies, true_and, and_true, and_self, forall_eq, bI_t, bI_f, Bool.false_eq_true, or_true, true_or, or_false, false_or, s1_ltx, if_true, if_false, Nat.add_zero, Nat.zero_add,  d_leF, d_leT, d_ltF, d_ltT, d_eqF, d_eqT]
    exact kk I3 hW
  · rintro f i I3 hi ⟨h0, hW⟩ hk
    have q := (hW.pm hP).2 n hn
    show wX8_giveJoin_275 _ _ _ _ _ _ _ _ _ _
    rw [wX8_giveJoin_275]
    simp (disch := omega) only [q.2.2.2.2.2.2, hwn, fa_lit, nI_ltI, nI_leI, nI_eq, nI_add, pk_mul, nI_clamp, vp_in_nI, l_uk, l_n1, l_n1e, l_n1e2, l_n1l, l_n1l2, l_n1l3, not_true_eq_false, not_false_eq_true, true_implies, false_implies, true_and, and_true, and_self, forall_eq, bI_t, bI_f, Bool.false_eq_true, or_true, true_or, or_false, false_or, s1_ltx, if_true, if_false, Nat.add_zero, Nat.zero_add,  d_leF, d_leT, d_ltF, d_ltT, d_eqF, d_eqT]
    exact hW.put (by omega) hl hl2 (by omega) (hg i h0 hi) (fun I4 h4 => hk I4 ⟨by omega, h4⟩)
/-- a row of the first node, with unknown values behind it, put behind those that are there -/
def gAl (X : List Int32) (wa c : Nat) : Int32 := if c < wa then X.getD c UK else UK
theorem gAl_row {I : QI} {a r wa w : Nat} {A : List (List Int32)} (hA : Hm I a A wa) (hr : r < A.length) (hr2 : r < 200) (hw : wa ≤ w) : (List.range w).map (gAl (A.getD r []) wa) = A.getD r [] ++ uks (w - wa) := by
  have e : wa + (w - wa) = w := by omega
  have e2 := sbs (A := A.getD r []) (B := uks (w - wa)) (wa := wa) (wb := w - wa) (g := gAl (A.getD r []) wa) (row_map (hA.2 r hr hr2)).symm (List.map_congr_left (fun c _ => uks_get.symm)) (fun c hc => if_pos hc) (fun c hc => by unfold gAl; rw [if_neg (by omega)]; exact uks_get.symm)
  rwa [e] at e2
theorem m_alone {I : QI} {T : QT} {P : List Nd} (hP : Pm I P) (hw : Pw T P) {n r wa wb w k : Nat} {A B R : List (List Int32)} (hJ : Jm I P n wa wb A B) (hwn : (nd P n).2.2.2.2.2.2 = w) (hwa : wa ≤ w) (hw6 : w ≤ 6) (hr : r < A.length) (hR : Hm I n R w) (hR2 : R.length < 2 ^ 29) {x3 x4 x5 : Int32} {K : Int32 → Int32 → Int32 → Int32 → QI → Prop} {post : QI → Prop} (kk : ∀ I3, I3 64 n = nI R.length → FM n I (q_u2 I3 64 n (nI (R.length + 1))) → Hm (q_u2 I3 64 n (nI (R.length + 1))) n (R ++ [A.getD r [] ++ uks (w - wa)]) w → K (nI (nd P n).2.1) x3 x4 x5 I3) : wX8_copyRow (nI n) (nI (nd P n).2.1) (nI r) (nI 0) I (fun I52 => ∃ f, wX8_giveJoin_275 (nI n) K post f (nI (nd P n).2.1) x3 x4 x5 (I52 61 (nd P n).2.1) I52) := by
  have h24 := hw.1
  obtain ⟨hn, ha, hb0, hb, hA, hB, hwa2, hwb, lA, lB, -⟩ := hJ
  refine m_copyRow (wa := 0) (w := wa) hP hw (Wm.z I n R.length (gAl (A.getD r []) wa)) hR.1 (by omega) (by omega) (by omega) (by omega) hA hwa2 (by omega) hr (by omega) (fun c hc => by rw [Nat.zero_add]; exact if_pos hc) (fun I3 hW => ?_)
  rw [Nat.zero_add] at hW
  have q := (hW.pm hP).2 (nd P n).2.1 (by omega)
  rw [q.2.2.2.2.2.2, hwa2]
  refine m_giveJoin_275 hP hW hn h24 hR.1 (by omega) hwn hwa hw6 (fun c hc _ => if_neg (by omega)) (fun I4 hW4 => ?_)
  obtain ⟨x, y, z⟩ := hW4.fin hR hw6
  rw [gAl_row hA hr (by omega) hwa] at y
  exact kk I4 (by rw [hW4.1 64 (by omega)]; exact hR.1) x y
theorem m_giveJoin_45 {I : QI} {T : QT} {P : List Nd} (hP : Pm I P) (hw : Pw T P) {n r d wa wb w k : Nat} {A B R : List (List Int32)} (hJ : Jm I P n wa wb A B) (h1 : (nd P n).1 = 2) (hkk : (nd P n).2.2.2.1 = k) (hwn : (nd P n).2.2.2.2.2.2 = w) (hww : k < 2 → w = wa + wb) (hw6 : w ≤ 6) (hr : r < A.length) (hc : (nd P n).2.2.2.2.1 < wa) (hd : d < wb) (hde : (nd P n).2.2.2.2.2.1 = nI d) (hk5 : k < 6) (hR : Hm I n R w) (hR2 : R.length < 2 ^ 28) {K : Int32 → Int32 → Int32 → Int32 → Int32 → Int32 → QI → Prop} {post : QI → Prop} (h : ∀ I2, FM n I I2 → Hm I2 n (R ++ jM k d B (A.getD r []) ((A.getD r []).getD (nd P n).2.2.2.2.1 UK) B.length) w → K (nI (nd P n).2.1) (nI ((nd P n).2.2.1 - 1)) (nI k) (nI r) (nI (ct (fun j => isT 0 ((A.getD r []).getD (nd P n).2.2.2.2.1 UK) ((B.getD j []).getD d UK)) B.length)) (nI (ct (fun j => isT 1 ((A.getD r []).getD (nd P n).2.2.2.2.1 UK) ((B.getD j []).getD d UK)) B.length)) I2) : ∃ f, wX8_giveJoin_45 (nI n) K post f (nI (nd P n).2.1) (nI ((nd P n).2.2.1 - 1)) (nI k) (nI r) 0 0 0 I := by
  have h24 := hw.1
  have hJ0 := hJ
  obtain ⟨hn, ha, hb0, hb, hA, hB, hwa2, hwb, lA, lB, wa6, wb6⟩ := hJ
  have o1e : o1 (nd P n) = nI (nd P n).2.2.2.2.1 := by unfold o1; rw [if_neg (by omega)]
  have o2e : o2 (nd P n) = nI d := by unfold o2; rw [if_pos h1, hde]
  generalize hx : (A.getD r []).getD (nd P n).2.2.2.2.1 UK = x at *
  refine lp (fun f j (s : Nat × Nat × QI) => wX8_giveJoin_45 (nI n) K post f (nI (nd P n).2.1) (nI ((nd P n).2.2.1 - 1)) (nI k) (nI r) (nI s.1) (nI s.2.1) (nI j) s.2.2) (fun j s => FM n I s.2.2 ∧ Hm s.2.2 n (R ++ jM k d B (A.getD r []) x j) w ∧ s.1 = ct (fun j => isT 0 x ((B.getD j []).getD d UK)) j ∧ s.2.1 = ct (fun j => isT 1 x ((B.getD j []).getD d UK)) j) B.length ?_ ?_ 0 (0, 0, I) (Nat.zero_le _) ⟨FM.rf _ _, by rw [jM_z, List.append_nil]; exact hR, rfl, rfl⟩
  · rintro f ⟨m, u, I2⟩ ⟨hF, hH, hm, hu⟩
    replace hm : m = _ := hm
    replace hu : u = _ := hu
    replace hF : FM n I I2 := hF
    show wX8_giveJoin_45 _ _ _ _ _ _ _ _ _ _ _ _
    rw [wX8_giveJoin_45]
    simp (disch := omega) only [((hJ0.fa hF).2.2.2.2.2.1).1, fa_lit, nI_ltI, nI_leI, nI_eq, nI_add, pk_mul, nI_clamp, vp_in_nI, l_uk, l_n1, l_n1e, l_n1e2, l_n1l, l_n1l2, l_n1l3, not_true_eq_false, not_false_eq_true, true_implies, false_implies, true_and, and_true, and_self, forall_eq, bI_t, bI_f, Bool.false_eq_true, or_true, true_or, or_false, false_or, s1_ltx, if_true, if_false, Nat.add_zero, Nat.zero_add,  d_leF, d_leT, d_ltF, d_ltT, d_eqF, d_eqT]
    rw [hm, hu]
    exact h I2 hF hH
  · rintro f j ⟨m, u, I2⟩ hj ⟨hF, hH, hm, hu⟩ hk
    replace hF : FM n I I2 := hF
    replace hH : Hm I2 n _ w := hH
    replace hm : m = _ := hm
    replace hu : u = _ := hu
    have q := (hF.pm hP).2 n hn
    have hJ2 := hJ0.fa hF
    have hA2 := hJ2.2.2.2.2.1
    have hB2 := hJ2.2.2.2.2.2.1
    have m9 : m ≤ j := by rw [hm]; exact ct_le _ _
    have u9 : u ≤ j := by rw [hu]; exact ct_le _ _
    have l9 := jM_l (k := k) (d := d) (B := B) (X := A.getD r []) (x := x) j
    -- a row that is put behind
    have put : k < 2 → isT 0 x ((B.getD j []).getD d UK) = true → ∀ (u2 : Nat), u2 = ct (fun j => isT 1 x ((B.getD j []).getD d UK)) (j + 1) → wX8_copyRow (nI n) (nI (nd P n).2.1) (nI r) (nI 0) I2 (fun I14 => (wX8_copyRow (nI n) (nI ((nd P n).2.2.1 - 1)) (nI j) (I14 61 (nd P n).2.1) I14 (fun I15 => wX8_giveJoin_45 (nI n) K post f (nI (nd P n).2.1) (nI ((nd P n).2.2.1 - 1)) (nI k) (nI r) (nI (m + 1)) (nI u2) (nI (j + 1)) (q_u2 I15 64 n (I15 64 n + nI 1))))) := by
      intro hk2 e0 u2 hu2
      have hww2 := hww hk2
      refine m_copyRow (wa := 0) (w := wa) (hF.pm hP) hw (Wm.z I2 n (R ++ jM k d B (A.getD r []) x j).length (fun c => if c < wa then (A.getD r []).getD c UK else (B.getD j []).getD (c - wa) UK)) hH.1 (by rw [List.length_append]; omega) (by omega) (by omega) (by omega) hA2 hwa2 (by omega) hr (by omega) (fun c hc => by rw [Nat.zero_add]; exact if_pos hc) (fun I3 hW => ?_)
      rw [Nat.zero_add] at hW
      have q3 := (hW.pm (hF.pm hP)).2 (nd P n).2.1 (by omega)
      rw [q3.2.2.2.2.2.2, hwa2]
      refine m_copyRow (wa := wa) (w := wb) (hF.pm hP) hw hW hH.1 (by rw [List.length_append]; omega) (by omega) (by omega) (by omega) hB2 hwb (by omega) hj (by omega) (fun c hc => ?_) (fun I4 hW4 => ?_)
      · show (if wa + c < wa then _ else _) = _
        rw [if_neg (by omega), show wa + c - wa = c by omega]
      · rw [← hww2] at hW4
        obtain ⟨x9, y9, z9⟩ := hW4.fin hH hw6
        have e64 : I4 64 n = nI (R ++ jM k d B (A.getD r []) x j).length := by rw [hW4.1 64 (by omega)]; exact hH.1
        rw [e64, nI_add]
        refine hk (m + 1, u2, _) ⟨hF.tr x9, ?_, ?_, hu2⟩
        · have e8 := sbs (A := A.getD r []) (B := B.getD j []) (wa := wa) (wb := wb) (g := fun c => if c < wa then (A.getD r []).getD c UK else (B.getD j []).getD (c - wa) UK) (row_map (hA.2 r hr (by omega))).symm (row_map (hB.2 j hj (by omega))).symm (fun c hc => if_pos hc) (fun c hc => by
            show (if wa + c < wa then _ else _) = _
            rw [if_neg (by omega), show wa + c - wa = c by omega])
          rw [← hww2] at e8
          rw [e8, List.append_assoc, ← jM_t hk2 e0] at y9
          exact y9
        · rw [ct_s, e0, hm]
          rfl
    show wX8_giveJoin_45 _ _ _ _ _ _ _ _ _ _ _ _
    rw [wX8_giveJoin_45]
    simp (disch := omega) only [q.2.2.2.1, q.2.2.2.2.1, o1e, o2e, hB2.1, fa_lit, nI_ltI, nI_leI, nI_eq, nI_add, pk_mul, nI_clamp, vp_in_nI, l_uk, l_n1, l_n1e, l_n1e2, l_n1l, l_n1l2, l_n1l3, not_true_eq_false, not_false_eq_true, true_implies, false_implies, true_and, and_true, and_self, forall_eq, bI_t, bI_f, Bool.false_eq_true, or_true, true_or, or_false, false_or, s1_ltx, if_true, if_false, Nat.add_zero, Nat.zero_add,  d_leF, d_leT, d_ltF, d_ltT, d_eqF, d_eqT]
    refine m_cellOf (by omega) hA2 hr (by omega) hc wa6 ?_
    rw [hx]
    refine m_cellOf (by omega) hB2 hj (by omega) hd wb6 ?_
    refine m_isTrue (k := 0) (by omega) ?_
    have nxt0 : isT 0 x ((B.getD j []).getD d UK) = false → m = ct (fun j => isT 0 x ((B.getD j []).getD d UK)) (j + 1) := fun e => by rw [ct_s, e, hm]; rfl
    have nxt0t : isT 0 x ((B.getD j []).getD d UK) = true → m + 1 = ct (fun j => isT 0 x ((B.getD j []).getD d UK)) (j + 1) := fun e => by rw [ct_s, e, hm]; rfl
    have nxt1 : isT 1 x ((B.getD j []).getD d UK) = false → u = ct (fun j => isT 1 x ((B.getD j []).getD d UK)) (j + 1) := fun e => by rw [ct_s, e, hu]; rfl
    have nxt1t : isT 1 x ((B.getD j []).getD d UK) = true → u + 1 = ct (fun j => isT 1 x ((B.getD j []).getD d UK)) (j + 1) := fun e => by rw [ct_s, e, hu]; rfl
    cases e0 : isT 0 x ((B.getD j []).getD d UK)
    · simp (disch := omega) only [fa_lit, nI_ltI, nI_leI, nI_eq, nI_add, pk_mul, nI_clamp, vp_in_nI, l_uk, l_n1, l_n1e, l_n1e2, l_n1l, l_n1l2, l_n1l3, not_true_eq_false, not_false_eq_true, true_implies, false_implies, true_and, and_true, and_self, forall_eq, bI_t, bI_f, Bool.false_eq_true, or_true, true_or, or_false, false_or, s1_ltx, if_true, if_false, Nat.add_zero, Nat.zero_add,  d_leF, d_leT, d_ltF, d_ltT, d_eqF, d_eqT]
      refine m_cellOf (by omega) hA2 hr (by omega) hc wa6 ?_
      rw [hx]
      refine m_cellOf (by omega) hB2 hj (by omega) hd wb6 ?_
      refine m_isTrue (k := 1) (by omega) ?_
      cases e1 : isT 1 x ((B.getD j []).getD d UK)
      · simp (disch := omega) only [fa_lit, nI_ltI, nI_leI, nI_eq, nI_add, pk_mul, nI_clamp, vp_in_nI, l_uk, l_n1, l_n1e, l_n1e2, l_n1l, l_n1l2, l_n1l3, not_true_eq_false, not_false_eq_true, true_implies, false_implies, true_and, and_true, and_self, forall_eq, bI_t, bI_f, Bool.false_eq_true, or_true, true_or, or_false, false_or, s1_ltx, if_true, if_false, Nat.add_zero, Nat.zero_add,  d_leF, d_leT, d_ltF, d_ltT, d_eqF, d_eqT]
        exact hk (m, u, I2) ⟨hF, by rw [jM_f (Or.inl e0)]; exact hH, nxt0 e0, nxt1 e1⟩
      · simp (disch := omega) only [fa_lit, nI_ltI, nI_leI, nI_eq, nI_add, pk_mul, nI_clamp, vp_in_nI, l_uk, l_n1, l_n1e, l_n1e2, l_n1l, l_n1l2, l_n1l3, not_true_eq_false, not_false_eq_true, true_implies, false_implies, true_and, and_true, and_self, forall_eq, bI_t, bI_f, Bool.false_eq_true, or_true, true_or, or_false, false_or, s1_ltx, if_true, if_false, Nat.add_zero, Nat.zero_add,  d_leF, d_leT, d_ltF, d_ltT, d_eqF, d_eqT]
        exact hk (m, u + 1, I2) ⟨hF, by rw [jM_f (Or.inl e0)]; exact hH, nxt0 e0, nxt1t e1⟩
    · simp (disch := omega) only [fa_lit, nI_ltI, nI_leI, nI_eq, nI_add, pk_mul, nI_clamp, vp_in_nI, l_uk, l_n1, l_n1e, l_n1e2, l_n1l, l_n1l2, l_n1l3, not_true_eq_false, not_false_eq_true, true_implies, false_implies, true_and, and_true, and_self, forall_eq, bI_t, bI_f, Bool.false_eq_true, or_true, true_or, or_false, false_or, s1_ltx, if_true, if_false, Nat.add_zero, Nat.zero_add,  d_leF, d_leT, d_ltF, d_ltT, d_eqF, d_eqT]
      refine m_cellOf (by omega) hA2 hr (by omega) hc wa6 ?_
      rw [hx]
      refine m_cellOf (by omega) hB2 hj (by omega) hd wb6 ?_
      refine m_isTrue (k := 1) (by omega) ?_
      cases e1 : isT 1 x ((B.getD j []).getD d UK)
      · by_cases hk2 : k < 2
        · simp (disch := omega) only [fa_lit, nI_ltI, nI_leI, nI_eq, nI_add, pk_mul, nI_clamp, vp_in_nI, l_uk, l_n1, l_n1e, l_n1e2, l_n1l, l_n1l2, l_n1l3, not_true_eq_false, not_false_eq_true, true_implies, false_implies, true_and, and_true, and_self, forall_eq, bI_t, bI_f, Bool.false_eq_true, or_true, true_or, or_false, false_or, s1_ltx, if_true, if_false, Nat.add_zero, Nat.zero_add,  d_leF, d_leT, d_ltF, d_ltT, d_eqF, d_eqT]
          exact put hk2 e0 u (nxt1 e1)
        · simp (disch := omega) only [fa_lit, nI_ltI, nI_leI, nI_eq, nI_add, pk_mul, nI_clamp, vp_in_nI, l_uk, l_n1, l_n1e, l_n1e2, l_n1l, l_n1l2, l_n1l3, not_true_eq_false, not_false_eq_true, true_implies, false_implies, true_and, and_true, and_self, forall_eq, bI_t, bI_f, Bool.false_eq_true, or_true, true_or, or_false, false_or, s1_ltx, if_true, if_false, Nat.add_zero, Nat.zero_add,  d_leF, d_leT, d_ltF, d_ltT, d_eqF, d_eqT]
          exact hk (m + 1, u, I2) ⟨hF, by rw [jM_f (Or.inr (by omega))]; exact hH, nxt0t e0, nxt1 e1⟩
      · by_cases hk2 : k < 2
        · simp (disch := omega) only [fa_lit, nI_ltI, nI_leI, nI_eq, nI_add, pk_mul, nI_clamp, vp_in_nI, l_uk, l_n1, l_n1e, l_n1e2, l_n1l, l_n1l2, l_n1l3, not_true_eq_false, not_false_eq_true, true_implies, false_implies, true_and, and_true, and_self, forall_eq, bI_t, bI_f, Bool.false_eq_true, or_true, true_or, or_false, false_or, s1_ltx, if_true, if_false, Nat.add_zero, Nat.zero_add,  d_leF, d_leT, d_ltF, d_ltT, d_eqF, d_eqT]
          exact put hk2 e0 (u + 1) (nxt1t e1)
        · simp (disch := omega) only [fa_lit, nI_ltI, nI_leI, nI_eq, nI_add, pk_mul, nI_clamp, vp_in_nI, l_uk, l_n1, l_n1e, l_n1e2, l_n1l, l_n1l2, l_n1l3, not_true_eq_false, not_false_eq_true, true_implies, false_implies, true_and, and_true, and_self, forall_eq, bI_t, bI_f, Bool.false_eq_true, or_true, true_or, or_false, false_or, s1_ltx, if_true, if_false, Nat.add_zero, Nat.zero_add,  d_leF, d_leT, d_ltF, d_ltT, d_eqF, d_eqT]
          exact hk (m + 1, u + 1, I2) ⟨hF, by rw [jM_f (Or.inr (by omega))]; exact hH, nxt0t e0, nxt1t e1⟩
