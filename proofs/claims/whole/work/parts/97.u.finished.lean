/-! pure: the reference's rewriting whole, by fuel -/
section FN
variable {T : QT} {P0 : List Nd} {DN : List (Nat × List Nat)} {DL : List (List Nat)}
theorem pr_in {PS : List Pr} {k : Nat} (h : k < PS.length) : pr PS k ∈ PS := by
  unfold pr
  rw [List.getD_eq_getElem?_getD, List.getElem?_eq_getElem h]
  exact List.getElem_mem h
theorem pr_of {PS : List Pr} {p : Pr} (h : p ∈ PS) : ∃ k, k < PS.length ∧ pr PS k = p := by
  obtain ⟨k, hk, e⟩ := List.getElem_of_mem h
  refine ⟨k, hk, ?_⟩
  unfold pr
  rw [List.getD_eq_getElem?_getD, List.getElem?_eq_getElem hk]
  exact e
theorem pfd_no {n r : Nat} : ∀ {PS : List Pr}, pfd PS n r = none → ∀ p, p ∈ PS → ¬ (p.1 = n ∧ p.2.1 = r)
  | [], _, p, h => by cases h
  | q :: ps, h, p, hp => by
    rw [pfd] at h
    by_cases e : q.1 = n ∧ q.2.1 = r
    · rw [if_pos e] at h; cases h
    · rw [if_neg e] at h
      rcases List.mem_cons.mp hp with z | z
      · rw [z]; exact e
      · exact pfd_no h p z
theorem qco_c {T : QT} {P : List Nd} {n : Nat} (h : nW T P n (nd P n)) (h1 : (nd P n).1 = 1) : (((1200 * o1 (nd P n)) + (200 * o2 (nd P n))) + o3 (nd P n)) + 99 = nI (qco (nd P n)) := by
  obtain ⟨⟨b1, b2, b3, b4, b5, b6, b7⟩, hwd, c0, c1, c2, c3, c4, c5⟩ := h
  obtain ⟨u, hu, e1, e2⟩ := kv_u (c2 h1).2.2
  have e3 : qco (nd P n) = 1200 * (nd P n).2.2.2.2.1 + 200 * (nd P n).2.2.2.1 + u := by
    unfold qco
    rw [e2, nI_clamp (by omega)]
  have k1 : o1 (nd P n) = nI (nd P n).2.2.2.2.1 := by unfold o1; rw [if_neg (by omega)]
  have k2 : o2 (nd P n) = nI (nd P n).2.2.2.1 := by unfold o2; rw [if_neg (by omega), if_pos (Or.inl h1)]
  have k3 : o3 (nd P n) = (nd P n).2.2.2.2.2.1 := by unfold o3; rw [if_neg (by omega)]
  have k4 : (nd P n).2.2.2.2.2.1 + 99 = nI u := e2
  rw [k1, k2, k3, Int32.add_assoc, k4, e3]
  simp (disch := omega) only [fa_lit, nI_ltI, nI_leI, nI_eq, nI_add, pk_mul, nI_clamp, vp_in_nI, l_uk, l_n1, l_n1e, l_n1e2, l_n1l, l_n1l2, l_n1l3, not_true_eq_false, not_false_eq_true, true_implies, false_implies, true_and, and_true, and_self, forall_eq, bI_t, bI_f, Bool.false_eq_true, or_true, true_or, or_false, false_or, s1_ltx, if_true, if_false, Nat.add_zero, Nat.zero_add,  d_leF, d_leT, d_ltF, d_ltT, d_eqF, d_eqT]
theorem m_finished (hwT : Tw T) (hw0 : Pw T P0) (hC : Cl P0 DN DL) : ∀ f, Rc9 T P0 DN DL (wX8_finished f) f
  | 0 => fun n r L R X h => absurd h (Nat.not_lt_zero _)
  | f + 1 => fun n r L R X hnf hn hK hG hr hL hok hl hm => by
    have hrec : Rc9 T P0 DN DL (wX8_finished f) n := fun n' r' L' R' X' a => m_finished hwT hw0 hC f n' r' L' R' X' (by omega)
    have h24 := hw0.1
    have hv : vp_in (nI n) 24 := by simp (disch := omega) only [fa_lit, nI_ltI, nI_leI, nI_eq, nI_add, pk_mul, nI_clamp, vp_in_nI, l_uk, l_n1, l_n1e, l_n1e2, l_n1l, l_n1l2, l_n1l3, not_true_eq_false, not_false_eq_true, true_implies, false_implies, true_and, and_true, and_self, forall_eq, bI_t, bI_f, Bool.false_eq_true, or_true, true_or, or_false, false_or, s1_ltx, if_true, if_false, Nat.add_zero, Nat.zero_add,  d_leF, d_leT, d_ltF, d_ltT, d_eqF, d_eqT]
    cases X with
    | none => exact ⟨R, hK, hG, RE.rf _ _, fun S I c s post hA hc hs h => ⟨fun z => absurd (hA.2.2.2.symm.trans z) (by decide), fun _ => h S I hA (FR.rf I)⟩⟩
    | some P =>
      obtain ⟨hx, hw, hd, hp⟩ := hG P rfl
      have hle := hx.le
      have en : nd P n = nd P0 n := hx.g hn
      by_cases e1 : (nd P0 n).1 = 1
      · have ha := (hw0.2 n hn).ab.1 (by omega)
        have okc := qc_ok hw0 hn e1 hok
        have he : qco (nd P0 n) < 7200 := by
          have q1 := (okc (qco (nd P0 n)) List.mem_cons_self).1
          have q2 := (hw0.2 (nd P0 n).2.1 (by omega)).1.2.2.2.2.2.2
          omega
        have hmem := (hC.2.2 n L hm hn).2.1 e1
        have hdl := (hC.2.2 _ _ hmem (show (nd P0 n).2.1 < P0.length by omega)).1 [] _ rfl (by simp)
        obtain ⟨k1, k2, k3⟩ := RK_lof hC.1 hK hdl (by simp)
        obtain ⟨r1, z1, y1⟩ := lcn_of (C := (lof (R.1, R.2.1) (qco (nd P0 n) :: L)).1) (fun _ => lof_in _ _)
        obtain ⟨R2, K2, G2, E2, S2⟩ := hrec (nd P0 n).2.1 r1 (qco (nd P0 n) :: L) ((lof (R.1, R.2.1) (qco (nd P0 n) :: L)).1, (lof (R.1, R.2.1) (qco (nd P0 n) :: L)).2, R.2.2) (some P) ha (by omega) k1 (hG.re hK k2) z1 y1 okc (by rw [List.length_cons]; omega) hmem
        have er : rx (some P) n L = rx (some P) (nd P0 n).2.1 (qco (nd P0 n) :: L) := by
          show rw1 P n L = rw1 P _ _
          rw [rw1_f (hw0.sw.x hx) hn (by rw [en]; exact e1), en]
        rw [← er] at G2 S2
        have u1 := k2.2.1
        have v1 := k2.2.2.1
        have u2 := E2.2.1
        have v2 := E2.2.2.1
        refine ⟨R2, K2, G2, (k2.mono (Nat.zero_le _)).tr (E2.mono (by omega)), fun S I c s post hA hc hs h => ?_⟩
        have hnd := hA.nd hG hn
        have hcode : (((1200 * (I 58 (nI n).toNatClampNeg)) + (200 * (I 59 (nI n).toNatClampNeg))) + (I 60 (nI n).toNatClampNeg)) + 99 = nI (qco (nd P0 n)) := by
          rw [nI_clamp (by omega), hnd.2.2.2.1, hnd.2.2.2.2.1, hnd.2.2.2.2.2]
          exact qco_c (hw0.2 n hn) e1
        have h55 : I 55 (nI n).toNatClampNeg = nI 1 := by
          rw [nI_clamp (by omega), ← e1]
          exact hnd.1
        have h56 : I 56 (nI n).toNatClampNeg = nI (nd P0 n).2.1 := by
          rw [nI_clamp (by omega)]
          exact hnd.2.1
        refine ⟨fun _ => ⟨hv, fun z => absurd h55 z, fun _ => ⟨hv, hv, hv, hv, 2 * ((lof (R.1, R.2.1) (qco (nd P0 n) :: L)).2 - R.2.1), 256 * ((lof (R.1, R.2.1) (qco (nd P0 n) :: L)).2 - R.2.1), ?_, ?_, ?_⟩⟩, fun z => absurd hA.2.2.2 z⟩
        · have : R.2.1 ≤ (lof (R.1, R.2.1) (qco (nd P0 n) :: L)).2 := u1
          have : (lof (R.1, R.2.1) (qco (nd P0 n) :: L)).2 ≤ R2.2.1 := u2
          omega
        · have : R.2.1 ≤ (lof (R.1, R.2.1) (qco (nd P0 n) :: L)).2 := u1
          have : (lof (R.1, R.2.1) (qco (nd P0 n) :: L)).2 ≤ R2.2.1 := u2
          omega
        · rw [hcode, h56]
          obtain ⟨C, u, PS, v⟩ := R
          have hL' : lcn C r = L := hL
          have hr' : r ≤ C.length := hr
          have u1' : u ≤ (lof (C, u) (qco (nd P0 n) :: L)).2 := u1
          have u2' : (lof (C, u) (qco (nd P0 n) :: L)).2 ≤ R2.2.1 := u2
          have v2' : v ≤ R2.2.2.2 := v2
          have hc' : 2 * (R2.2.1 - u) + 3 * (R2.2.2.2 - v) ≤ c := hc
          have hs' : 256 * (R2.2.1 - u) + 384 * (R2.2.2.2 - v) ≤ s := hs
          have hml := m_listOf (c := 2 * ((lof (C, u) (qco (nd P0 n) :: L)).2 - u)) (s := 256 * ((lof (C, u) (qco (nd P0 n) :: L)).2 - u)) (post := fun r43 S44 I45 => ∃ c6 s6 : Nat, (0 + 2 * ((lof (C, u) (qco (nd P0 n) :: L)).2 - u)) + c6 ≤ c ∧ (0 + 256 * ((lof (C, u) (qco (nd P0 n) :: L)).2 - u)) + s6 ≤ s ∧ wX8_finished f (nI (nd P0 n).2.1) r43 S44 I45 c6 s6 (fun r46 S47 I48 => post r46 S47 I48)) hA.at he hr'
          rw [hL'] at hml
          refine hml k3 (Nat.le_refl _) (Nat.le_refl _) (fun k S3 I3 hk ek hA3 hF3 => ?_)
          have e9 : k + 1 = r1 := lcn_inj k1.1 hk z1 ((lcn_s _ k).trans (ek.trans y1.symm))
          have e8 : nI k = sB r1 := by rw [← e9]; rfl
          refine ⟨2 * (R2.2.1 - (lof (C, u) (qco (nd P0 n) :: L)).2) + 3 * (R2.2.2.2 - v), 256 * (R2.2.1 - (lof (C, u) (qco (nd P0 n) :: L)).2) + 384 * (R2.2.2.2 - v), by omega, by omega, ?_⟩
          show wX8_finished f (nI (nd P0 n).2.1) (nI k) S3 I3 _ _ _
          rw [e8]
          exact S2 S3 I3 _ _ _ (hA.fl hA3 hF3) (Nat.le_refl _) (Nat.le_refl _) (fun S4 I4 hA4 hF4 => h S4 I4 hA4 (hF3.fr.tr hF4))
      · have h7 : ∀ k, k < R.2.2.1.length → (pr R.2.2.1 k).1 < 2 ^ 30 ∧ (pr R.2.2.1 k).2.1 < 2 ^ 30 := fun k hk => by
          obtain ⟨a1, a2, -⟩ := hK.2.2.2.2.1 k hk
          have hp9 : R.1.length ≤ DL.length := pig (fun k => R.1.getD k []) _ DL (fun k hk => hK.2.1 _ (getD_mem hk)) hK.1.2
          have := hC.1
          omega
        have hr30 : r < 2 ^ 30 := by
          have hp9 : R.1.length ≤ DL.length := pig (fun k => R.1.getD k []) _ DL (fun k hk => hK.2.1 _ (getD_mem hk)) hK.1.2
          have := hC.1
          omega
        have h55 : ∀ {S : QS} {I : QI}, At T P0 S I R (some P) → ¬ I 55 (nI n).toNatClampNeg = 1 := fun hA => by
          have b5 := (hw0.2 n hn).1.1
          rw [nI_clamp (by omega), (hA.nd hG hn).1]
          simp (disch := omega) only [fa_lit, nI_ltI, nI_leI, nI_eq, nI_add, pk_mul, nI_clamp, vp_in_nI, l_uk, l_n1, l_n1e, l_n1e2, l_n1l, l_n1l2, l_n1l3, not_true_eq_false, not_false_eq_true, true_implies, false_implies, true_and, and_true, and_self, forall_eq, bI_t, bI_f, Bool.false_eq_true, or_true, true_or, or_false, false_or, s1_ltx, if_true, if_false, Nat.add_zero, Nat.zero_add,  d_leF, d_leT, d_ltF, d_ltT, d_eqF, d_eqT]
        cases hpf : pfd R.2.2.1 n r with
        | some x =>
          obtain ⟨k, hk, ek⟩ := pr_of (pfd_m hpf)
          obtain ⟨i, g1, g2⟩ := hp k hk
          rw [ek] at g1 g2
          have g1 : x = nI i := g1
          have er : rx (some P) n L = some (i, P) := by rw [← hL]; exact g2
          unfold Fi
          rw [er]
          refine ⟨R, hK, hG, RE.rf _ _, fun S I c s post hA hc hs h => ⟨fun _ => ⟨hv, fun _ => ?_, fun z => absurd z (h55 hA)⟩, fun z => absurd hA.2.2.2 z⟩⟩
          obtain ⟨C, u, PS, v⟩ := R
          refine m_pairs hA.at (by omega) h7 hr30 (fun z => absurd (z.symm.trans hpf) (by simp)) (fun y hy => ?_)
          have ey : y = x := Option.some.inj (hy.symm.trans hpf)
          rw [ey, g1]
          exact h S I hA (FR.rf I)
        | none =>
          obtain ⟨R1, K1, G1, E1, S1⟩ := m_become hwT hw0 hC hrec hn e1 hK hG hr hL hok hl hm
          have lc1 := E1.lc
          have eL1 : lcn R1.1 r = L := (lc1.2 r hr).trans hL
          have hr1 := Nat.le_trans hr lc1.1
          have hno : ∀ k, k < R1.2.2.1.length → ¬ ((pr R1.2.2.1 k).1 = n ∧ (pr R1.2.2.1 k).2.1 = r) := fun k hk => by
            obtain ⟨-, -, -, Y, eY, hY⟩ := E1
            have hin := pr_in hk
            generalize pr R1.2.2.1 k = p at hin
            rw [eY] at hin
            rcases List.mem_append.mp hin with z | z
            · exact pfd_no hpf p z
            · have := hY p z
              omega
          obtain ⟨k1, k2, k3⟩ := RK_pad (x := mo (rx (some P) n L)) hC.2.1 K1 hn hr1 (by rw [eL1]; exact hm) hno
          have u1 := E1.2.1
          have v1 := E1.2.2.1
          have v2 : R1.2.2.2 ≤ (pad R1.2.2 (n, r, mo (rx (some P) n L))).2 := k2.2.2.1
          refine ⟨_, k1, fun P1 eP1 => ?_, (E1.mono (Nat.le_succ n)).tr k2, fun S I c s post hA hc hs h => ⟨fun _ => ⟨hv, fun _ => ?_, fun z => absurd z (h55 hA)⟩, fun z => absurd hA.2.2.2 z⟩⟩
          · obtain ⟨q1, q2, q3, q4⟩ := G1 P1 eP1
            refine ⟨q1, q2, q3, fun k hk => ?_⟩
            have hk : k < (R1.2.2.1 ++ [(n, r, mo (rx (some P) n L))]).length := hk
            show ∃ i, (pr (R1.2.2.1 ++ [(n, r, mo (rx (some P) n L))]) k).2.2 = nI i ∧ rw1 P1 (pr (R1.2.2.1 ++ [(n, r, mo (rx (some P) n L))]) k).1 (lcn R1.1 (pr (R1.2.2.1 ++ [(n, r, mo (rx (some P) n L))]) k).2.1) = some (i, P1)
            rw [List.length_append] at hk
            have hk2 : k < R1.2.2.1.length + 1 := hk
            by_cases e : k = R1.2.2.1.length
            · subst e
              rw [pr_e]
              cases er : rx (some P) n L with
              | none => rw [er] at eP1; cases eP1
              | some z =>
                obtain ⟨i, P4⟩ := z
                rw [er] at eP1
                cases eP1
                refine ⟨i, rfl, ?_⟩
                show rw1 P4 n (lcn R1.1 r) = some (i, P4)
                rw [eL1]
                have er : rw1 P n L = some (i, P4) := er
                exact rw_x (hw0.sw.x hx) hn er (XP.rf _)
            · rw [pr_l (by omega)]
              exact q4 k (by omega)
          · obtain ⟨C, u, PS, v⟩ := R
            obtain ⟨C1, u1', PS1, v1'⟩ := R1
            have hc' : 2 * (u1' - u) + 3 * ((pad (PS1, v1') (n, r, mo (rx (some P) n L))).2 - v) ≤ c := hc
            have hs' : 256 * (u1' - u) + 384 * ((pad (PS1, v1') (n, r, mo (rx (some P) n L))).2 - v) ≤ s := hs
            have v1 : v ≤ v1' := v1
            have u1 : u ≤ u1' := u1
            have v2 : v1' ≤ (pad (PS1, v1') (n, r, mo (rx (some P) n L))).2 := v2
            refine m_pairs hA.at (by omega) h7 hr30 (fun _ => ⟨2 * (u1' - u) + 3 * (v1' - v), 256 * (u1' - u) + 384 * (v1' - v), by omega, by omega, ?_⟩) (fun y hy => absurd (hy.symm.trans hpf) (by simp))
            refine S1 S I _ _ _ hA (Nat.le_refl _) (Nat.le_refl _) (fun S2 I2 hA2 hF2 => ?_)
            exact m_padd hA2.at k3 (by omega) (by omega) (fun S3 I3 hA3 hF3 => h S3 I3 (hA2.fl hA3 hF3) (hF2.tr hF3.fr))
end FN
