/-! pure: the reference's same, with what stays of the long numbers -/
theorem m_sameJ {I : QI} {J : QJ} {T : QT} {P : List Nd} (hT : Tm I T) (hwT : Tw T) (hP : Pm I P) (hw : Pw T P) {n m bu : Nat} (hn : n < P.length) (hm : m < P.length) (hbu : I 51 13 = nI bu) (hbu2 : bu ≤ 100000) {post : Int32 → QI → QJ → Prop} (h : ∀ (x : Int32) (I2 : QI) (J2 : QJ), (∀ b, b ≠ 51 → b ≠ 64 → b ≠ 66 → b ≠ 67 → b ≠ 68 → b ≠ 69 → I2 b = I b) → (∀ j, j ≠ 0 → I2 51 j = I 51 j) → (∀ b, b ≠ 65 → J2 b = J b) → I2 51 0 = (if psb T P n bu && psb T P m bu then nI 0 else nI 2) → (psb T P n bu = true → psb T P m bu = true → x = bI (sameR T P n m)) → post x I2 J2) : wX8_same (nI n) (nI m) I J post := by
  have h24 := hw.1
  have wn6 := (hw.2 n hn).1.2.2.2.2.2.2
  have wm6 := (hw.2 m hm).1.2.2.2.2.2.2
  unfold wX8_same wX8_goesWell
  refine m_isNode hP hw hn ?_
  simp (disch := omega) only [fa_lit, nI_ltI, nI_leI, nI_eq, nI_add, pk_mul, nI_clamp, vp_in_nI, l_uk, l_n1, l_n1e, l_n1e2, l_n1l, l_n1l2, l_n1l3, not_true_eq_false, not_false_eq_true, true_implies, false_implies, true_and, and_true, and_self, forall_eq, bI_t, bI_f, Bool.false_eq_true, or_true, true_or, or_false, false_or, s1_ltx, if_true, if_false, Nat.add_zero, Nat.zero_add,  d_leF, d_leT, d_ltF, d_ltT, d_eqF, d_eqT]
  refine m_isNode hP hw hm ?_
  simp (disch := omega) only [fa_lit, nI_ltI, nI_leI, nI_eq, nI_add, pk_mul, nI_clamp, vp_in_nI, l_uk, l_n1, l_n1e, l_n1e2, l_n1l, l_n1l2, l_n1l3, not_true_eq_false, not_false_eq_true, true_implies, false_implies, true_and, and_true, and_self, forall_eq, bI_t, bI_f, Bool.false_eq_true, or_true, true_or, or_false, false_or, s1_ltx, if_true, if_false, Nat.add_zero, Nat.zero_add,  d_leF, d_leT, d_ltF, d_ltT, d_eqF, d_eqT]
  refine m_workJ hT hwT hP hw hn hbu hbu2 (fun I2 J2 hF2 hJ2 hO2 => ?_)
  cases e : psb T P n bu
  · simp (disch := omega) only [q_u2_s, ne_u2, nr_u2, fa_lit, nI_ltI, nI_leI, nI_eq, nI_add, pk_mul, nI_clamp, vp_in_nI, l_uk, l_n1, l_n1e, l_n1e2, l_n1l, l_n1l2, l_n1l3, not_true_eq_false, not_false_eq_true, true_implies, false_implies, true_and, and_true, and_self, forall_eq, bI_t, bI_f, Bool.false_eq_true, or_true, true_or, or_false, false_or, s1_ltx, if_true, if_false, Nat.add_zero, Nat.zero_add,  d_leF, d_leT, d_ltF, d_ltT, d_eqF, d_eqT]
    refine h _ _ _ (fun b h1 h2 h3 h4 h5 h6 => by rw [nr_u2 h1]; exact hF2 b h2 h3 h4 h5) (fun j hj => by rw [q_u2_j _ _ _ hj, hF2 51 (by omega) (by omega) (by omega) (by omega)]) hJ2 ?_ (fun z => by rw [e] at z; cases z)
    rw [e, q_u2_s]
    rfl
  · obtain ⟨A, hEA, hA, -⟩ := hO2 e
    obtain ⟨_, _, _, _, _, lA⟩ := EV_some hw hn hEA
    have a64 := hA.1
    simp (disch := omega) only [a64, q_u2_s, ne_u2, nr_u2, fa_lit, nI_ltI, nI_leI, nI_eq, nI_add, pk_mul, nI_clamp, vp_in_nI, l_uk, l_n1, l_n1e, l_n1e2, l_n1l, l_n1l2, l_n1l3, not_true_eq_false, not_false_eq_true, true_implies, false_implies, true_and, and_true, and_self, forall_eq, bI_t, bI_f, Bool.false_eq_true, or_true, true_or, or_false, false_or, s1_ltx, if_true, if_false, Nat.add_zero, Nat.zero_add,  d_leF, d_leT, d_ltF, d_ltT, d_eqF, d_eqT]
    refine m_same_63 (by omega) (fun I3 hF3 hk3 => ?_)
    have hF4 : ∀ b, b ≠ 51 → b ≠ 64 → b ≠ 66 → b ≠ 67 → b ≠ 68 → b ≠ 69 → I3 b = I b := fun b h1 h2 h3 h4 h5 h6 => by rw [hF3 b h6, nr_u2 h1]; exact hF2 b h2 h3 h4 h5
    have h51 : ∀ j, j ≠ 0 → I3 51 j = I 51 j := fun j hj => by rw [hF3 51 (by omega), q_u2_j _ _ _ hj, hF2 51 (by omega) (by omega) (by omega) (by omega)]
    have hP4 : Pm I3 P := by
      refine ⟨by rw [h51 5 (by omega)]; exact hP.1, fun n hn => ?_⟩
      rw [hF4 55 (by omega) (by omega) (by omega) (by omega) (by omega) (by omega), hF4 56 (by omega) (by omega) (by omega) (by omega) (by omega) (by omega), hF4 57 (by omega) (by omega) (by omega) (by omega) (by omega) (by omega), hF4 58 (by omega) (by omega) (by omega) (by omega) (by omega) (by omega), hF4 59 (by omega) (by omega) (by omega) (by omega) (by omega) (by omega), hF4 60 (by omega) (by omega) (by omega) (by omega) (by omega) (by omega), hF4 61 (by omega) (by omega) (by omega) (by omega) (by omega) (by omega)]
      exact hP.2 n hn
    have hT4 : Tm I3 T := by
      refine ⟨by rw [h51 1 (by omega)]; exact hT.1, fun u hu => ?_⟩
      rw [hF4 52 (by omega) (by omega) (by omega) (by omega) (by omega) (by omega), hF4 53 (by omega) (by omega) (by omega) (by omega) (by omega) (by omega), hF4 54 (by omega) (by omega) (by omega) (by omega) (by omega) (by omega)]
      exact hT.2 u hu
    have hk4 : ∀ r c, r < A.length → c < (nd P n).2.2.2.2.2.2 → I3 69 (6 * r + c) = (A.getD r []).getD c UK := fun r c hr hc => by
      rw [hk3 _ (by omega), nr_u2 (by omega), hA.2 r hr (by omega), rowAt_get hc]
      congr 1
      omega
    have hA4 : ∀ r, r < A.length → (List.range (nd P n).2.2.2.2.2.2).map (fun c => (A.getD r []).getD c UK) = A.getD r [] := fun r hr => row_map (hA.2 r hr (by omega))
    refine m_workJ hT4 hwT hP4 hw hm (by rw [h51 13 (by omega)]; exact hbu) hbu2 (fun I5 J5 hF5 hJ5' hO5 => ?_)
    have hJ5 : ∀ b, b ≠ 65 → J5 b = J b := fun b hb => (hJ5' b hb).trans (hJ2 b hb)
    have hF6 : ∀ (x : Int32) b, b ≠ 51 → b ≠ 64 → b ≠ 66 → b ≠ 67 → b ≠ 68 → b ≠ 69 → q_u2 I5 51 0 x b = I b := fun x b h1 h2 h3 h4 h5 h6 => by rw [nr_u2 h1, hF5 b h2 h3 h4 h5]; exact hF4 b h1 h2 h3 h4 h5 h6
    have h516 : ∀ (x : Int32) j, j ≠ 0 → q_u2 I5 51 0 x 51 j = I 51 j := fun x j hj => by rw [q_u2_j _ _ _ hj, hF5 51 (by omega) (by omega) (by omega) (by omega)]; exact h51 j hj
    cases e2 : psb T P m bu
    · simp (disch := omega) only [q_u2_s, ne_u2, nr_u2, fa_lit, nI_ltI, nI_leI, nI_eq, nI_add, pk_mul, nI_clamp, vp_in_nI, l_uk, l_n1, l_n1e, l_n1e2, l_n1l, l_n1l2, l_n1l3, not_true_eq_false, not_false_eq_true, true_implies, false_implies, true_and, and_true, and_self, forall_eq, bI_t, bI_f, Bool.false_eq_true, or_true, true_or, or_false, false_or, s1_ltx, if_true, if_false, Nat.add_zero, Nat.zero_add,  d_leF, d_leT, d_ltF, d_ltT, d_eqF, d_eqT]
      refine h _ _ _ (hF6 _) (h516 _) hJ5 ?_ (fun _ z => by rw [e2] at z; cases z)
      rw [e, e2, q_u2_s]
      rfl
    · obtain ⟨B, hEB, hB, -⟩ := hO5 e2
      obtain ⟨_, _, _, _, _, lB⟩ := EV_some hw hm hEB
      have b64 := hB.1
      have hP5 : Pm I5 P := Pm_fr hP4 (fun b h1 h2 => hF5 b (by omega) (by omega) (by omega) (by omega))
      have cn := (hP5.2 n hn).2.2.2.2.2.2
      have cm := (hP5.2 m hm).2.2.2.2.2.2
      have hR : sameR T P n m = (decide ((nd P n).2.2.2.2.2.2 = (nd P m).2.2.2.2.2.2 ∧ A.length = B.length) && (er A B).isSome) := by
        unfold sameR
        rw [hEA, hEB]
      have hh := h
      rw [hR, e, e2] at hh
      simp (disch := omega) only [b64, cn, cm, q_u2_s, ne_u2, nr_u2, fa_lit, nI_ltI, nI_leI, nI_eq, nI_add, pk_mul, nI_clamp, vp_in_nI, l_uk, l_n1, l_n1e, l_n1e2, l_n1l, l_n1l2, l_n1l3, not_true_eq_false, not_false_eq_true, true_implies, false_implies, true_and, and_true, and_self, forall_eq, bI_t, bI_f, Bool.false_eq_true, or_true, true_or, or_false, false_or, s1_ltx, if_true, if_false, Nat.add_zero, Nat.zero_add,  d_leF, d_leT, d_ltF, d_ltT, d_eqF, d_eqT]
      refine ⟨fun ew => ?_, fun ew => ⟨fun el => ?_, fun el => ?_⟩⟩
      · refine hh _ _ _ (hF6 _) (h516 _) hJ5 (q_u2_s _ _ _ _) (fun _ _ => ?_)
        rw [decide_eq_false (fun z => ew z.1)]
        rfl
      · refine m_fill (fun I7 hF7 hG7 => ?_)
        rw [ew] at hk4 hA4
        rw [el]
        refine m_same_156 (A := A) (P := P) ((FM.one (n := m) hF7).pm ?_) hm h24 rfl wm6 ((Hm.one ?_ hF7)) lB el (fun r c hr hc => ?_) hA4 hG7 (fun I8 hF8 => ?_)
        · exact ⟨by rw [q_u2_j _ _ _ (by omega)]; exact hP5.1, fun n hn => by simp (disch := omega) only [nr_u2]; exact hP5.2 n hn⟩
        · exact ⟨by rw [nr_u2 (by omega)]; exact hB.1, by rw [nr_u2 (show (66 : Nat) ≠ 51 by omega)]; exact hB.2⟩
        · rw [hF7 69 (by omega), nr_u2 (by omega), hF5 69 (by omega) (by omega) (by omega) (by omega)]
          exact hk4 r c hr hc
        · refine hh _ _ _ (fun b h1 h2 h3 h4 h5 h6 => by rw [hF8 b h5, hF7 b h5]; exact hF6 _ b h1 h2 h3 h4 h5 h6) (fun j hj => by rw [hF8 51 (by omega), hF7 51 (by omega)]; exact h516 _ j hj) hJ5 (by rw [hF8 51 (by omega), hF7 51 (by omega)]; exact q_u2_s _ _ _ _) (fun _ _ => ?_)
          rw [decide_eq_true ⟨ew, el⟩, Bool.true_and, er_sym el]
      · refine hh _ _ _ (hF6 _) (h516 _) hJ5 (q_u2_s _ _ _ _) (fun _ _ => ?_)
        rw [decide_eq_false (fun z => el z.2)]
        rfl

