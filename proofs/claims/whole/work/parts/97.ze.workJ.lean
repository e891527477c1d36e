/-! pure: the reference's work, with what stays of the long numbers -/
theorem m_workJ {I : QI} {J : QJ} {T : QT} {P : List Nd} (hT : Tm I T) (hwT : Tw T) (hP : Pm I P) (hw : Pw T P) {n bu : Nat} (hn : n < P.length) (hbu : I 51 13 = nI bu) (hbu2 : bu ≤ 100000) {post : Int32 → QI → QJ → Prop} (h : ∀ (I2 : QI) (J2 : QJ), (∀ b, b ≠ 64 → b ≠ 66 → b ≠ 67 → b ≠ 68 → I2 b = I b) → (∀ b, b ≠ 65 → J2 b = J b) → (psb T P n bu = true → OKm I2 J2 T P n) → post (bI (psb T P n bu)) I2 J2) : wX8_work (nI n) I J post := by
  have h24 := hw.1
  unfold wX8_work
  refine m_fill (fun I1 hF1 hG1 => ?_)
  simp (disch := omega) only [fa_lit, nI_ltI, nI_leI, nI_eq, nI_add, pk_mul, nI_clamp, vp_in_nI, l_uk, l_n1, l_n1e, l_n1e2, l_n1l, l_n1l2, l_n1l3, not_true_eq_false, not_false_eq_true, true_implies, false_implies, true_and, and_true, and_self, forall_eq, bI_t, bI_f, Bool.false_eq_true, or_true, true_or, or_false, false_or, s1_ltx, if_true, if_false, Nat.add_zero, Nat.zero_add,  d_leF, d_leT, d_ltF, d_ltT, d_eqF, d_eqT]
  have hP1 : Pm (q_u2 I1 67 n (nI 1)) P := Pm_fr hP (fun b h1 h2 => by rw [nr_u2 (by omega)]; exact hF1 b (by omega))
  refine m_work_17 (T := T) hP1 hw hn (fun k hk => ?_) (fun I2 W hF2 hW hN => ?_)
  · have := ar_u2 (i := n) (x := true) (p := 67) (A := fun _ => false) (fun k hk => hG1 k hk) k hk
    rw [bI_t] at this
    rw [this]
    by_cases e : k = n
    · rw [if_pos e, decide_eq_true e]
    · rw [if_neg e, decide_eq_false e]
  · have hF : ∀ b, b ≠ 67 → I2 b = I b := fun b hb => by rw [hF2 b hb, nr_u2 hb, hF1 b hb]
    have hP2 : Pm I2 P := Pm_fr hP (fun b h1 h2 => hF b (by omega))
    have hT2 : Tm I2 T := Tm_fr hT (fun b h1 h2 => hF b (by omega))
    obtain ⟨n1, n2, n3⟩ := hN
    refine lp (fun f i (s : QI × QJ) => wX8_work_90 (nI n) (fun I21 J22 => ((0 < (lg_cmp (J22 65 n) (((I21 51 13)).toInt64)) → post (nI 0) I21 J22) ∧ (¬ 0 < (lg_cmp (J22 65 n) (((I21 51 13)).toInt64)) → post (nI 1) I21 J22))) post f (nI i) s.1 s.2) (fun i s => (∀ b, b ≠ 64 → b ≠ 66 → b ≠ 68 → s.1 b = I2 b) ∧ (∀ b, b ≠ 65 → s.2 b = J b) ∧ ∀ m, m < i → W m = true → OKm s.1 s.2 T P m) (n + 1) ?_ ?_ 0 (I2, J) (Nat.zero_le _) ⟨fun _ _ _ _ => rfl, fun _ _ => rfl, fun c hc => absurd hc (Nat.not_lt_zero c)⟩
    · rintro f ⟨I3, J3⟩ ⟨hF3, hJ9, hO⟩
      replace hF3 : ∀ b, b ≠ 64 → b ≠ 66 → b ≠ 68 → I3 b = I2 b := hF3
      replace hJ9 : ∀ b, b ≠ 65 → J3 b = J b := hJ9
      replace hO : ∀ m, m < n + 1 → W m = true → OKm I3 J3 T P m := hO
      obtain ⟨L, hE, hL, hJ⟩ := hO n (by omega) n3
      have e13 : I3 51 13 = nI bu := by rw [hF3 51 (by omega) (by omega) (by omega), hF 51 (by omega)]; exact hbu
      have hps : psb T P n bu = decide (ST T P n ≤ bu) := by unfold psb; rw [hE]; rfl
      have hpost := h I3 J3 (fun b h1 h2 h3 h4 => by rw [hF3 b h1 h2 h4]; exact hF b h3) hJ9 (fun _ => ⟨L, hE, hL, hJ⟩)
      rw [hps] at hpost
      have hS := ST_lt hw hn
      show wX8_work_90 _ _ _ _ _ _ _
      rw [wX8_work_90]
      simp (disch := omega) only [fa_lit, nI_ltI, nI_leI, nI_eq, nI_add, pk_mul, nI_clamp, vp_in_nI, l_uk, l_n1, l_n1e, l_n1e2, l_n1l, l_n1l2, l_n1l3, not_true_eq_false, not_false_eq_true, true_implies, false_implies, true_and, and_true, and_self, forall_eq, bI_t, bI_f, Bool.false_eq_true, or_true, true_or, or_false, false_or, s1_ltx, if_true, if_false, Nat.add_zero, Nat.zero_add,  d_leF, d_leT, d_ltF, d_ltT, d_eqF, d_eqT]
      rw [hJ, e13, nI_64 (by omega), cmp_gt9, jN_lt (by omega) (by omega)]
      refine ⟨fun e => ?_, fun e => ?_⟩
      · rw [decide_eq_false (by omega)] at hpost
        exact hpost
      · rw [decide_eq_true (by omega)] at hpost
        exact hpost
    · rintro f i ⟨I3, J3⟩ hi ⟨hF3, hJ9, hO⟩ hk
      replace hF3 : ∀ b, b ≠ 64 → b ≠ 66 → b ≠ 68 → I3 b = I2 b := hF3
      replace hJ9 : ∀ b, b ≠ 65 → J3 b = J b := hJ9
      replace hO : ∀ m, m < i → W m = true → OKm I3 J3 T P m := hO
      have hF4 : ∀ b, b ≠ 64 → b ≠ 66 → b ≠ 68 → q_u2 I3 64 i (nI 0) b = I2 b := fun b h1 h2 h3 => by rw [nr_u2 h1]; exact hF3 b h1 h2 h3
      have wi6 : ∀ m, m < P.length → (nd P m).2.2.2.2.2.2 ≤ 6 := fun m hm => (hw.2 m hm).1.2.2.2.2.2.2
      have hO4 : ∀ m, m < i → W m = true → OKm (q_u2 I3 64 i (nI 0)) J3 T P m := fun m hm hWm => by
        obtain ⟨L, hE, hL, hJ⟩ := hO m hm hWm
        exact ⟨L, hE, ⟨by rw [q_u2_j _ _ _ (by omega)]; exact hL.1, by rw [nr_u2 (show (66 : Nat) ≠ 64 by omega)]; exact hL.2⟩, hJ⟩
      have hW4 : q_u2 I3 64 i (nI 0) 67 i = bI (W i) := by rw [nr_u2 (by omega), hF3 67 (by omega) (by omega) (by omega)]; exact hW i (by omega)
      show wX8_work_90 _ _ _ _ _ _ _
      rw [wX8_work_90]
      cases e : W i
      · rw [e] at hW4
        simp (disch := omega) only [hW4, fa_lit, nI_ltI, nI_leI, nI_eq, nI_add, pk_mul, nI_clamp, vp_in_nI, l_uk, l_n1, l_n1e, l_n1e2, l_n1l, l_n1l2, l_n1l3, not_true_eq_false, not_false_eq_true, true_implies, false_implies, true_and, and_true, and_self, forall_eq, bI_t, bI_f, Bool.false_eq_true, or_true, true_or, or_false, false_or, s1_ltx, if_true, if_false, Nat.add_zero, Nat.zero_add,  d_leF, d_leT, d_ltF, d_ltT, d_eqF, d_eqT]
        refine hk (_, J3) ⟨hF4, hJ9, fun m hm hWm => ?_⟩
        by_cases e2 : m = i
        · subst e2; rw [e] at hWm; cases hWm
        · exact hO4 m (by omega) hWm
      · rw [e] at hW4
        have hiP : i < P.length := by omega
        simp (disch := omega) only [hW4, fa_lit, nI_ltI, nI_leI, nI_eq, nI_add, pk_mul, nI_clamp, vp_in_nI, l_uk, l_n1, l_n1e, l_n1e2, l_n1l, l_n1l2, l_n1l3, not_true_eq_false, not_false_eq_true, true_implies, false_implies, true_and, and_true, and_self, forall_eq, bI_t, bI_f, Bool.false_eq_true, or_true, true_or, or_false, false_or, s1_ltx, if_true, if_false, Nat.add_zero, Nat.zero_add,  d_leF, d_leT, d_ltF, d_ltT, d_eqF, d_eqT]
        obtain ⟨cA, cB⟩ := n2 i (Nat.zero_le _) e
        obtain ⟨ha, hb⟩ := (hw.2 i hiP).ab
        obtain ⟨⟨b1, -⟩, -⟩ := hw.2 i hiP
        have hP4 : Pm (q_u2 I3 64 i (nI 0)) P := Pm_fr hP2 (fun b h1 h2 => hF4 b (by omega) (by omega) (by omega))
        have hT4 : Tm (q_u2 I3 64 i (nI 0)) T := Tm_fr hT2 (fun b h1 h2 => hF4 b (by omega) (by omega) (by omega))
        obtain ⟨A, eA, hA, jA, lA⟩ : ∃ A, EA T P i = some A ∧ ((nd P i).1 ≠ 0 → Hm (q_u2 I3 64 i (nI 0)) (nd P i).2.1 A (nd P (nd P i).2.1).2.2.2.2.2.2) ∧ ((nd P i).1 ≠ 0 → J3 65 (nd P i).2.1 = Int64.ofNat (ST T P (nd P i).2.1)) ∧ A.length ≤ 200 := by
          by_cases es : (nd P i).1 = 0
          · exact ⟨[], if_pos es, fun z => absurd es z, fun z => absurd es z, Nat.zero_le _⟩
          · obtain ⟨L, hE, hL, hJ⟩ := hO4 _ (ha es) (cA es)
            obtain ⟨_, _, _, _, _, l9⟩ := EV_some hw (show (nd P i).2.1 < P.length by have := ha es; omega) hE
            exact ⟨L, by unfold EA; rw [if_neg es]; exact hE, fun _ => hL, fun _ => hJ, l9⟩
        obtain ⟨B, eB, hB, jB, lB⟩ : ∃ B, EB T P i = some B ∧ ((nd P i).2.2.1 ≠ 0 → Hm (q_u2 I3 64 i (nI 0)) ((nd P i).2.2.1 - 1) B (nd P ((nd P i).2.2.1 - 1)).2.2.2.2.2.2) ∧ ((nd P i).2.2.1 ≠ 0 → J3 65 ((nd P i).2.2.1 - 1) = Int64.ofNat (ST T P ((nd P i).2.2.1 - 1))) ∧ B.length ≤ 200 := by
          by_cases es : (nd P i).2.2.1 = 0
          · exact ⟨[], if_pos es, fun z => absurd es z, fun z => absurd es z, Nat.zero_le _⟩
          · obtain ⟨L, hE, hL, hJ⟩ := hO4 _ (hb es) (cB es)
            obtain ⟨_, _, _, _, _, l9⟩ := EV_some hw (show (nd P i).2.2.1 - 1 < P.length by have := hb es; omega) hE
            exact ⟨L, by unfold EB; rw [if_neg es]; exact hE, fun _ => hL, fun _ => hJ, l9⟩
        refine m_give hT4 hwT hP4 hw hiP hA hB lA lB ⟨q_u2_s _ _ _ _, fun r hr => absurd hr (Nat.not_lt_zero r)⟩ (fun I5 hF5 hH5 => ?_)
        have lF : (FL T P i A B).length ≤ 41000 := fil_l lA lB (fun z => (hwT.2 _ (by have := ((hw.2 i hiP).2.2.1 z).1; have := hwT.1; omega)).2.1)
        have hH5 : Hm I5 i (FL T P i A B) (nd P i).2.2.2.2.2.2 := hH5
        have q := (hF5.pm hP4).2 i hiP
        have hF6 : ∀ b, b ≠ 64 → b ≠ 66 → b ≠ 68 → I5 b = I2 b := fun b h1 h2 h3 => by rw [hF5.1 b h1 h2 h3]; exact hF4 b h1 h2 h3
        have e64 := hH5.1
        have e57 : (nd P i).2.2.1 ≠ 0 → sB (nd P i).2.2.1 = nI ((nd P i).2.2.1 - 1) := fun z => if_neg z
        -- the end of both
        have fin : ∀ x : Int64, x = Int64.ofNat ((FL T P i A B).length + SA T P i + SB T P i) → (((FL T P i A B).length ≤ 200 → wX8_work_90 (nI n) (fun I21 J22 => ((0 < (lg_cmp (J22 65 n) (((I21 51 13)).toInt64)) → post (nI 0) I21 J22) ∧ (¬ 0 < (lg_cmp (J22 65 n) (((I21 51 13)).toInt64)) → post (nI 1) I21 J22))) post f (nI (i + 1)) I5 (q_u2 J3 65 i x)) ∧ (¬ (FL T P i A B).length ≤ 200 → post (nI 0) I5 (q_u2 J3 65 i x))) := by
          intro x hx
          refine ⟨fun hl => ?_, fun hl => ?_⟩
          · have hE := EV_mk hw hiP eA eB hl
            refine hk (I5, _) ⟨hF6, (fun b hb => (nr_u2 hb).trans (hJ9 b hb)), fun m hm hWm => ?_⟩
            by_cases e2 : m = i
            · subst e2
              refine ⟨_, hE, hH5, ?_⟩
              rw [ST_eq hw hiP, hE, hx]
              exact q_u2_s _ _ _ _
            · obtain ⟨L, hE2, hL, hJ⟩ := hO4 m (by omega) hWm
              refine ⟨L, hE2, hL.fa hF5 e2 (wi6 m (by omega)), ?_⟩
              show q_u2 J3 65 i x 65 m = _
              rw [q_u2_j _ _ _ e2]
              exact hJ
          · have hE := EV_no hw hiP eA eB (by omega)
            have hEn := (n1 i e).2 hE
            have hps : psb T P n bu = false := by unfold psb; rw [hEn]; rfl
            have hpost := h I5 (q_u2 J3 65 i x) (fun b h1 h2 h3 h4 => by rw [hF6 b h1 h2 h4]; exact hF b h3) (fun b hb => (nr_u2 hb).trans (hJ9 b hb)) (fun z => by rw [hps] at z; cases z)
            rw [hps] at hpost
            exact hpost
        have z0 : Int64.ofNat ((0 : Fin 2) : Nat) = Int64.ofNat 0 := rfl
        unfold SA SB at fin
        by_cases es : (nd P i).1 = 0
        · have eb : (nd P i).2.2.1 = 0 := ((hw.2 i hiP).2.2.1 es).2.1
          rw [if_pos es, if_pos eb] at fin
          simp (disch := omega) only [q.1, es, e64, fa_lit, nI_ltI, nI_leI, nI_eq, nI_add, pk_mul, nI_clamp, vp_in_nI, l_uk, l_n1, l_n1e, l_n1e2, l_n1l, l_n1l2, l_n1l3, not_true_eq_false, not_false_eq_true, true_implies, false_implies, true_and, and_true, and_self, forall_eq, bI_t, bI_f, Bool.false_eq_true, or_true, true_or, or_false, false_or, s1_ltx, if_true, if_false, Nat.add_zero, Nat.zero_add,  d_leF, d_leT, d_ltF, d_ltT, d_eqF, d_eqT]
          rw [nI_64 (by omega), z0, jN_add, jN_add]
          exact fin _ rfl
        · have ha2 := ha es
          rw [if_neg es] at fin
          by_cases eb : (nd P i).2.2.1 = 0
          · rw [if_pos eb] at fin
            have q57 := q.2.2.1
            rw [eb, sB_0] at q57
            simp (disch := omega) only [q.1, q.2.1, q57, e64, fa_lit, nI_ltI, nI_leI, nI_eq, nI_add, pk_mul, nI_clamp, vp_in_nI, l_uk, l_n1, l_n1e, l_n1e2, l_n1l, l_n1l2, l_n1l3, not_true_eq_false, not_false_eq_true, true_implies, false_implies, true_and, and_true, and_self, forall_eq, bI_t, bI_f, Bool.false_eq_true, or_true, true_or, or_false, false_or, s1_ltx, if_true, if_false, Nat.add_zero, Nat.zero_add,  d_leF, d_leT, d_ltF, d_ltT, d_eqF, d_eqT]
            rw [nI_64 (by omega), z0, jA es, jN_add, jN_add]
            exact fin _ rfl
          · have hb2 := hb eb
            rw [if_neg eb] at fin
            have q57 := q.2.2.1
            rw [e57 eb] at q57
            simp (disch := omega) only [q.1, q.2.1, q57, e64, fa_lit, nI_ltI, nI_leI, nI_eq, nI_add, pk_mul, nI_clamp, vp_in_nI, l_uk, l_n1, l_n1e, l_n1e2, l_n1l, l_n1l2, l_n1l3, not_true_eq_false, not_false_eq_true, true_implies, false_implies, true_and, and_true, and_self, forall_eq, bI_t, bI_f, Bool.false_eq_true, or_true, true_or, or_false, false_or, s1_ltx, if_true, if_false, Nat.add_zero, Nat.zero_add,  d_leF, d_leT, d_ltF, d_ltT, d_eqF, d_eqT]
            rw [nI_64 (by omega), jA es, jB eb, jN_add, jN_add]
            exact fin _ rfl

