/-! pure: the reference gives scans and filters -/
theorem Wm.pm {I I2 : QI} {n len k : Nat} {g : Nat → Int32} {P : List Nd} (h : Wm I I2 n len k g) (hP : Pm I P) : Pm I2 P := Pm_fr hP (fun b h1 h2 => h.1 b (by omega))
theorem Wm.tm {I I2 : QI} {n len k : Nat} {g : Nat → Int32} {T : QT} (h : Wm I I2 n len k g) (hT : Tm I T) : Tm I2 T := Tm_fr hT (fun b h1 h2 => h.1 b (by omega))
theorem m_giveScan_19 {I : QI} {T : QT} {P : List Nd} (hT : Tm I T) (hP : Pm I P) (hw : Pw T P) {n a w i : Nat} (hn : n < P.length) (ea : (nd P n).2.1 = a) (ew : (nd P n).2.2.2.2.2.2 = w) (ha : a < 4) (hi : i < 10) (w3 : w ≤ 3) (hl : I 64 n = nI i) {K : Int32 → QI → Prop} {post : QI → Prop} (h : ∀ I3, Wm I I3 n i w (fun c => T.2.2.2 a i c) → K (nI i) I3) : ∃ f, wX8_giveScan_19 (nI n) K post f (nI i) 0 I := by
  have h24 := hw.1
  refine lp (fun f c (I3 : QI) => wX8_giveScan_19 (nI n) K post f (nI i) (nI c) I3) (fun c I3 => Wm I I3 n i c (fun c => T.2.2.2 a i c)) w ?_ ?_ 0 I (Nat.zero_le _) (Wm.z _ _ _ _)
  · intro f I3 hW
    have q := (hW.pm hP).2 n hn
    show wX8_giveScan_19 _ _ _ _ _ _ _
    rw [wX8_giveScan_19]
    simp (disch := omega) only [q.2.2.2.2.2.2, ew, fa_lit, nI_ltI, nI_leI, nI_eq, nI_add, pk_mul, nI_clamp, vp_in_nI, l_uk, l_n1, l_n1e, l_n1e2, l_n1l, l_n1l2, l_n1l3, not_true_eq_false, not_false_eq_true, true_implies, false_implies, true_and, and_true, and_self, forall_eq, bI_t, bI_f, Bool.false_eq_true, or_true, true_or, or_false, false_or, s1_ltx, if_true, if_false, Nat.add_zero, Nat.zero_add,  d_leF, d_leT, d_ltF, d_ltT, d_eqF, d_eqT]
    exact h I3 hW
  · intro f c I3 hc hW hk
    have q := (hW.pm hP).2 n hn
    show wX8_giveScan_19 _ _ _ _ _ _ _
    rw [wX8_giveScan_19]
    simp (disch := omega) only [q.2.2.2.2.2.2, q.2.1, ew, ea, fa_lit, nI_ltI, nI_leI, nI_eq, nI_add, pk_mul, nI_clamp, vp_in_nI, l_uk, l_n1, l_n1e, l_n1e2, l_n1l, l_n1l2, l_n1l3, not_true_eq_false, not_false_eq_true, true_implies, false_implies, true_and, and_true, and_self, forall_eq, bI_t, bI_f, Bool.false_eq_true, or_true, true_or, or_false, false_or, s1_ltx, if_true, if_false, Nat.add_zero, Nat.zero_add,  d_leF, d_leT, d_ltF, d_ltT, d_eqF, d_eqT]
    refine m_at (hW.tm hT) ha hi (by omega) ?_
    exact hW.put (by omega) hl (by omega) (by omega) rfl (fun I4 h4 => hk I4 h4)
theorem m_giveScan {I : QI} {T : QT} {P : List Nd} (hT : Tm I T) (hwT : Tw T) (hP : Pm I P) (hw : Pw T P) {n : Nat} (hn : n < P.length) (ha : (nd P n).2.1 < T.1) (hwn : (nd P n).2.2.2.2.2.2 = T.2.1 (nd P n).2.1) (hR : Hm I n [] (nd P n).2.2.2.2.2.2) {post : QI → Prop} (h : ∀ I2, FM n I I2 → Hm I2 n (flS T (nd P n).2.1 (T.2.2.1 (nd P n).2.1)) (nd P n).2.2.2.2.2.2 → post I2) : wX8_giveScan (nI n) I post := by
  have h24 := hw.1
  obtain ⟨t4, w3, m10, w1⟩ := hwT.l ha
  unfold wX8_giveScan
  refine lp (fun f i (I2 : QI) => wX8_giveScan_2 (nI n) post f (nI i) I2) (fun i I2 => FM n I I2 ∧ Hm I2 n (flS T (nd P n).2.1 i) (nd P n).2.2.2.2.2.2) (T.2.2.1 (nd P n).2.1) ?_ ?_ 0 I (Nat.zero_le _) ⟨FM.rf _ _, hR⟩
  · rintro f I2 ⟨hF, hH⟩
    have q := (hF.pm hP).2 n hn
    show wX8_giveScan_2 _ _ _ _ _
    rw [wX8_giveScan_2]
    simp (disch := omega) only [q.2.1, ((hF.tm hT).t t4).2, fa_lit, nI_ltI, nI_leI, nI_eq, nI_add, pk_mul, nI_clamp, vp_in_nI, l_uk, l_n1, l_n1e, l_n1e2, l_n1l, l_n1l2, l_n1l3, not_true_eq_false, not_false_eq_true, true_implies, false_implies, true_and, and_true, and_self, forall_eq, bI_t, bI_f, Bool.false_eq_true, or_true, true_or, or_false, false_or, s1_ltx, if_true, if_false, Nat.add_zero, Nat.zero_add,  d_leF, d_leT, d_ltF, d_ltT, d_eqF, d_eqT]
    exact h I2 hF hH
  · rintro f i I2 hi ⟨hF, hH⟩ hk
    have q := (hF.pm hP).2 n hn
    have hl := flS_l T (nd P n).2.1 i
    have hl2 : I2 64 n = nI i := by rw [hH.1, hl]
    show wX8_giveScan_2 _ _ _ _ _
    rw [wX8_giveScan_2]
    simp (disch := omega) only [q.2.1, ((hF.tm hT).t t4).2, fa_lit, nI_ltI, nI_leI, nI_eq, nI_add, pk_mul, nI_clamp, vp_in_nI, l_uk, l_n1, l_n1e, l_n1e2, l_n1l, l_n1l2, l_n1l3, not_true_eq_false, not_false_eq_true, true_implies, false_implies, true_and, and_true, and_self, forall_eq, bI_t, bI_f, Bool.false_eq_true, or_true, true_or, or_false, false_or, s1_ltx, if_true, if_false, Nat.add_zero, Nat.zero_add,  d_leF, d_leT, d_ltF, d_ltT, d_eqF, d_eqT]
    refine m_giveScan_19 (hF.tm hT) (hF.pm hP) hw hn rfl rfl t4 (by omega) (by omega) hl2 (fun I3 hW => ?_)
    rw [← hl] at hW
    obtain ⟨x, y, z⟩ := hW.fin hH (by omega)
    have e64 : I3 64 n = nI i := by rw [hW.1 64 (by omega), hl2]
    simp (disch := omega) only [e64, fa_lit, nI_ltI, nI_leI, nI_eq, nI_add, pk_mul, nI_clamp, vp_in_nI, l_uk, l_n1, l_n1e, l_n1e2, l_n1l, l_n1l2, l_n1l3, not_true_eq_false, not_false_eq_true, true_implies, false_implies, true_and, and_true, and_self, forall_eq, bI_t, bI_f, Bool.false_eq_true, or_true, true_or, or_false, false_or, s1_ltx, if_true, if_false, Nat.add_zero, Nat.zero_add,  d_leF, d_leT, d_ltF, d_ltT, d_eqF, d_eqT]
    rw [hl] at x y
    refine hk _ ⟨hF.tr x, ?_⟩
    rw [hwn] at y ⊢
    exact y
theorem m_giveFilter {I : QI} {T : QT} {P : List Nd} (hP : Pm I P) (hw : Pw T P) {n w : Nat} {A : List (List Int32)} (hn : n < P.length) (h1 : (nd P n).1 = 1) (ha : (nd P n).2.1 < n) (hk6 : (nd P n).2.2.2.1 < 6) (hc : (nd P n).2.2.2.2.1 < w) (hA : Hm I (nd P n).2.1 A w) (hA2 : A.length ≤ 200) (hwa : (nd P (nd P n).2.1).2.2.2.2.2.2 = w) (hw6 : w ≤ 6) (hR : Hm I n [] w) {post : QI → Prop} (h : ∀ I2, FM n I I2 → Hm I2 n (flF (nd P n).2.2.2.1 (nd P n).2.2.2.2.1 (nd P n).2.2.2.2.2.1 A A.length) w → post I2) : wX8_giveFilter (nI n) I post := by
  have h24 := hw.1
  unfold wX8_giveFilter
  have o1e : o1 (nd P n) = nI (nd P n).2.2.2.2.1 := by unfold o1; rw [if_neg (by omega)]
  have o2e : o2 (nd P n) = nI (nd P n).2.2.2.1 := by unfold o2; rw [if_neg (by omega), if_pos (by omega)]
  have o3e : o3 (nd P n) = (nd P n).2.2.2.2.2.1 := by unfold o3; rw [if_neg (by omega)]
  refine lp (fun f i (I2 : QI) => wX8_giveFilter_2 (nI n) post f (nI i) I2) (fun i I2 => FM n I I2 ∧ Hm I2 n (flF (nd P n).2.2.2.1 (nd P n).2.2.2.2.1 (nd P n).2.2.2.2.2.1 A i) w) A.length ?_ ?_ 0 I (Nat.zero_le _) ⟨FM.rf _ _, hR⟩
  · rintro f I2 ⟨hF, hH⟩
    have q := (hF.pm hP).2 n hn
    show wX8_giveFilter_2 _ _ _ _ _
    rw [wX8_giveFilter_2]
    simp (disch := omega) only [q.2.1, (hA.fa hF (by omega) hw6).1, fa_lit, nI_ltI, nI_leI, nI_eq, nI_add, pk_mul, nI_clamp, vp_in_nI, l_uk, l_n1, l_n1e, l_n1e2, l_n1l, l_n1l2, l_n1l3, not_true_eq_false, not_false_eq_true, true_implies, false_implies, true_and, and_true, and_self, forall_eq, bI_t, bI_f, Bool.false_eq_true, or_true, true_or, or_false, false_or, s1_ltx, if_true, if_false, Nat.add_zero, Nat.zero_add,  d_leF, d_leT, d_ltF, d_ltT, d_eqF, d_eqT]
    exact h I2 hF hH
  · rintro f i I2 hi ⟨hF, hH⟩ hk
    have q := (hF.pm hP).2 n hn
    have hA3 := hA.fa hF (by omega) hw6
    have e0 := flF_le (nd P n).2.2.2.1 (nd P n).2.2.2.2.1 (nd P n).2.2.2.2.2.1 A i
    show wX8_giveFilter_2 _ _ _ _ _
    rw [wX8_giveFilter_2]
    simp (disch := omega) only [q.2.1, q.2.2.2.1, q.2.2.2.2.1, q.2.2.2.2.2.1, o1e, o2e, o3e, hA3.1, fa_lit, nI_ltI, nI_leI, nI_eq, nI_add, pk_mul, nI_clamp, vp_in_nI, l_uk, l_n1, l_n1e, l_n1e2, l_n1l, l_n1l2, l_n1l3, not_true_eq_false, not_false_eq_true, true_implies, false_implies, true_and, and_true, and_self, forall_eq, bI_t, bI_f, Bool.false_eq_true, or_true, true_or, or_false, false_or, s1_ltx, if_true, if_false, Nat.add_zero, Nat.zero_add,  d_leF, d_leT, d_ltF, d_ltT, d_eqF, d_eqT]
    refine m_cellOf (by omega) hA3 hi (by omega) hc hw6 ?_
    refine m_isTrue hk6 ?_
    cases e : isT (nd P n).2.2.2.1 ((A.getD i []).getD (nd P n).2.2.2.2.1 UK) (nd P n).2.2.2.2.2.1
    · simp (disch := omega) only [fa_lit, nI_ltI, nI_leI, nI_eq, nI_add, pk_mul, nI_clamp, vp_in_nI, l_uk, l_n1, l_n1e, l_n1e2, l_n1l, l_n1l2, l_n1l3, not_true_eq_false, not_false_eq_true, true_implies, false_implies, true_and, and_true, and_self, forall_eq, bI_t, bI_f, Bool.false_eq_true, or_true, true_or, or_false, false_or, s1_ltx, if_true, if_false, Nat.add_zero, Nat.zero_add,  d_leF, d_leT, d_ltF, d_ltT, d_eqF, d_eqT]
      refine hk I2 ⟨hF, ?_⟩
      rw [flF, e]
      exact hH
    · simp (disch := omega) only [fa_lit, nI_ltI, nI_leI, nI_eq, nI_add, pk_mul, nI_clamp, vp_in_nI, l_uk, l_n1, l_n1e, l_n1e2, l_n1l, l_n1l2, l_n1l3, not_true_eq_false, not_false_eq_true, true_implies, false_implies, true_and, and_true, and_self, forall_eq, bI_t, bI_f, Bool.false_eq_true, or_true, true_or, or_false, false_or, s1_ltx, if_true, if_false, Nat.add_zero, Nat.zero_add,  d_leF, d_leT, d_ltF, d_ltT, d_eqF, d_eqT]
      refine m_copyRow (wa := 0) (w := w) (hF.pm hP) hw (Wm.z I2 n (flF (nd P n).2.2.2.1 (nd P n).2.2.2.2.1 (nd P n).2.2.2.2.2.1 A i).length (fun c => (A.getD i []).getD c UK)) hH.1 (by omega) (by omega) (by omega) (by omega) hA3 hwa (by omega) hi (by omega) (fun c hc => by rw [Nat.zero_add]) (fun I3 hW => ?_)
      rw [Nat.zero_add] at hW
      obtain ⟨x, y, z⟩ := hW.fin hH hw6
      have e64 : I3 64 n = nI (flF (nd P n).2.2.2.1 (nd P n).2.2.2.2.1 (nd P n).2.2.2.2.2.1 A i).length := by rw [hW.1 64 (by omega), hH.1]
      simp (disch := omega) only [e64, fa_lit, nI_ltI, nI_leI, nI_eq, nI_add, pk_mul, nI_clamp, vp_in_nI, l_uk, l_n1, l_n1e, l_n1e2, l_n1l, l_n1l2, l_n1l3, not_true_eq_false, not_false_eq_true, true_implies, false_implies, true_and, and_true, and_self, forall_eq, bI_t, bI_f, Bool.false_eq_true, or_true, true_or, or_false, false_or, s1_ltx, if_true, if_false, Nat.add_zero, Nat.zero_add,  d_leF, d_leT, d_ltF, d_ltT, d_eqF, d_eqT]
      refine hk _ ⟨hF.tr x, ?_⟩
      rw [flF, e, row_map (hA3.2 i hi (by omega))] at *
      exact y
