/-! pure: a node's rewriting in the reference: its parts -/
section BR
variable {T : QT} {P0 : List Nd} {DN : List (Nat × List Nat)} {DL : List (List Nat)} {R : RS} {X : Option (List Nd)} {n r : Nat} {L : List Nat} {rec : Rec9}
theorem At.nd {S : QS} {I : QI} (hA : At T P0 S I R X) (hG : GX T P0 R X) (hn : n < P0.length) : I 55 n = nI (nd P0 n).1 ∧ I 56 n = nI (nd P0 n).2.1 ∧ I 57 n = sB (nd P0 n).2.2.1 ∧ I 58 n = o1 (nd P0 n) ∧ I 59 n = o2 (nd P0 n) ∧ I 60 n = o3 (nd P0 n) := by
  obtain ⟨P, hx, hw, hP⟩ := hA.pl hG
  have hle := hx.le
  have hp := hP.2 n (by omega)
  rw [hx.g hn] at hp
  exact ⟨hp.1, hp.2.1, hp.2.2.1, hp.2.2.2.1, hp.2.2.2.2.1, hp.2.2.2.2.2.1⟩
theorem m_brA (hwT : Tw T) (hw0 : Pw T P0) (hC : Cl P0 DN DL) (hrec : Rc9 T P0 DN DL rec n) (hn : n < P0.length) (e0 : (nd P0 n).1 ≠ 0) (e1 : (nd P0 n).1 ≠ 1) (e2 : (nd P0 n).1 ≠ 2) (hb : ¬ ((nd P0 n).1 = 4 ∧ (nd P0 n).2.2.2.1 = 0)) (hK : RK P0 DN DL R) (hG : GX T P0 R X) (hr : r ≤ R.1.length) (hL : lcn R.1 r = L) (hok : okL (nd P0 n).2.2.2.2.2.2 L) (hl : L.length + n ≤ 23) (hm : (n, L) ∈ DN) : ∃ R2, RK P0 DN DL R2 ∧ GX T P0 R2 (xo (rx X n L)) ∧ RE n R R2 ∧ Sp9 T P0 R X R2 (xo (rx X n L)) (mo (rx X n L)) (brA rec (nI n) (sB r)) := by
  have h24 := hw0.1
  have ha := (hw0.2 n hn).ab.1 e0
  have hc9 := (hC.2.2 n L hm hn).2.2 e0 e1
  have lF : (cF P0 n L).length ≤ L.length := cF_l
  have lS : (cS P0 n L).length ≤ L.length := cS_l
  obtain ⟨R1, K1, G1, E1, S1⟩ := hrec (nd P0 n).2.1 0 (cF P0 n L) R X ha (by omega) hK hG (Nat.zero_le _) (by rw [cF_0 e2 hb]; rfl) (cF_ok hw0 hn hok) (by omega) hc9.1
  generalize h1 : rx X (nd P0 n).2.1 (cF P0 n L) = r1 at G1 S1
  have u1 := E1.2.1
  have v1 := E1.2.2.1
  by_cases eb : (nd P0 n).2.2.1 = 0
  · refine ⟨R1, K1, gx_fin hw0 hG G1 K1 G1 hn e0 e1 h1 (by rw [if_pos eb]) hok, E1.mono ha, fun S I c s post hA hc hs h => ?_⟩
    have hp := hA.nd hG hn
    unfold brA
    refine ⟨2 * (R1.2.1 - R.2.1) + 3 * (R1.2.2.2 - R.2.2.2), 256 * (R1.2.1 - R.2.1) + 384 * (R1.2.2.2 - R.2.2.2), by omega, by omega, ?_⟩
    simp (disch := omega) only [hp.2.1, fa_lit, nI_ltI, nI_leI, nI_eq, nI_add, pk_mul, nI_clamp, vp_in_nI, l_uk, l_n1, l_n1e, l_n1e2, l_n1l, l_n1l2, l_n1l3, not_true_eq_false, not_false_eq_true, true_implies, false_implies, true_and, and_true, and_self, forall_eq, bI_t, bI_f, Bool.false_eq_true, or_true, true_or, or_false, false_or, s1_ltx, if_true, if_false, Nat.add_zero, Nat.zero_add,  d_leF, d_leT, d_ltF, d_ltT, d_eqF, d_eqT]
    refine S1 S I _ _ _ hA (Nat.le_refl _) (Nat.le_refl _) (fun S2 I2 hA2 hF2 => ?_)
    have hp2 := hA2.nd G1 hn
    have ht := tail1 (post := post) hwT hw0 hG hn e0 e1 hb eb h1 hok (by omega) hA2 (Nat.le_trans hr E1.lc.1) ((E1.lc.2 r hr).trans hL) (fun I3 hA3 hF3 => h S2 I3 hA3 (hF2.tr hF3))
    unfold tl9 at ht
    simp (disch := omega) only [fa_lit, nI_ltI, nI_leI, nI_eq, nI_add, pk_mul, nI_clamp, vp_in_nI, l_uk, l_n1, l_n1e, l_n1e2, l_n1l, l_n1l2, l_n1l3, not_true_eq_false, not_false_eq_true, true_implies, false_implies, true_and, and_true, and_self, forall_eq, bI_t, bI_f, Bool.false_eq_true, or_true, true_or, or_false, false_or, s1_ltx, if_true, if_false, Nat.add_zero, Nat.zero_add,  d_leF, d_leT, d_ltF, d_ltT, d_eqF, d_eqT] at ht
    have h57 : I2 57 n = N1 := by rw [hp2.2.2.1, eb]; rfl
    simp (disch := omega) only [h57, fa_lit, nI_ltI, nI_leI, nI_eq, nI_add, pk_mul, nI_clamp, vp_in_nI, l_uk, l_n1, l_n1e, l_n1e2, l_n1l, l_n1l2, l_n1l3, not_true_eq_false, not_false_eq_true, true_implies, false_implies, true_and, and_true, and_self, forall_eq, bI_t, bI_f, Bool.false_eq_true, or_true, true_or, or_false, false_or, s1_ltx, if_true, if_false, Nat.add_zero, Nat.zero_add,  d_leF, d_leT, d_ltF, d_ltT, d_eqF, d_eqT]
    exact ht
  · have hbn := (hw0.2 n hn).ab.2 eb
    obtain ⟨R2, K2, G2, E2, S2⟩ := hrec ((nd P0 n).2.2.1 - 1) 0 (cS P0 n L) R1 (xo r1) hbn (by omega) K1 G1 (Nat.zero_le _) (by rw [cS_0 e2 hb]; rfl) (cS_ok hw0 hn eb hok) (by omega) (hc9.2 eb)
    generalize h2 : rx (xo r1) ((nd P0 n).2.2.1 - 1) (cS P0 n L) = r2 at G2 S2
    have u2 := E2.2.1
    have v2 := E2.2.2.1
    have E : RE n R R2 := (E1.mono ha).tr (E2.mono hbn)
    refine ⟨R2, K2, gx_fin hw0 hG G1 K2 G2 hn e0 e1 h1 (by rw [if_neg eb, h2]) hok, E, fun S I c s post hA hc hs h => ?_⟩
    have hp := hA.nd hG hn
    unfold brA
    refine ⟨2 * (R1.2.1 - R.2.1) + 3 * (R1.2.2.2 - R.2.2.2), 256 * (R1.2.1 - R.2.1) + 384 * (R1.2.2.2 - R.2.2.2), by omega, by omega, ?_⟩
    simp (disch := omega) only [hp.2.1, fa_lit, nI_ltI, nI_leI, nI_eq, nI_add, pk_mul, nI_clamp, vp_in_nI, l_uk, l_n1, l_n1e, l_n1e2, l_n1l, l_n1l2, l_n1l3, not_true_eq_false, not_false_eq_true, true_implies, false_implies, true_and, and_true, and_self, forall_eq, bI_t, bI_f, Bool.false_eq_true, or_true, true_or, or_false, false_or, s1_ltx, if_true, if_false, Nat.add_zero, Nat.zero_add,  d_leF, d_leT, d_ltF, d_ltT, d_eqF, d_eqT]
    refine S1 S I _ _ _ hA (Nat.le_refl _) (Nat.le_refl _) (fun S2' I2 hA2 hF2 => ?_)
    have hp2 := hA2.nd G1 hn
    have h57 : I2 57 n = nI ((nd P0 n).2.2.1 - 1) := by
      rw [hp2.2.2.1]
      exact if_neg eb
    simp (disch := omega) only [h57, fa_lit, nI_ltI, nI_leI, nI_eq, nI_add, pk_mul, nI_clamp, vp_in_nI, l_uk, l_n1, l_n1e, l_n1e2, l_n1l, l_n1l2, l_n1l3, not_true_eq_false, not_false_eq_true, true_implies, false_implies, true_and, and_true, and_self, forall_eq, bI_t, bI_f, Bool.false_eq_true, or_true, true_or, or_false, false_or, s1_ltx, if_true, if_false, Nat.add_zero, Nat.zero_add,  d_leF, d_leT, d_ltF, d_ltT, d_eqF, d_eqT]
    refine ⟨2 * (R2.2.1 - R1.2.1) + 3 * (R2.2.2.2 - R1.2.2.2), 256 * (R2.2.1 - R1.2.1) + 384 * (R2.2.2.2 - R1.2.2.2), by omega, by omega, ?_⟩
    refine S2 S2' I2 _ _ _ hA2 (Nat.le_refl _) (Nat.le_refl _) (fun S3 I3 hA3 hF3 => ?_)
    have ht := tail2 (post := post) hwT hw0 hG G1 hn e0 e1 hb eb h1 h2 hok (by omega) hA3 (Nat.le_trans hr E.lc.1) ((E.lc.2 r hr).trans hL) (fun I4 hA4 hF4 => h S3 I4 hA4 ((hF2.tr hF3).tr hF4))
    unfold tl9 at ht
    simp (disch := omega) only [fa_lit, nI_ltI, nI_leI, nI_eq, nI_add, pk_mul, nI_clamp, vp_in_nI, l_uk, l_n1, l_n1e, l_n1e2, l_n1l, l_n1l2, l_n1l3, not_true_eq_false, not_false_eq_true, true_implies, false_implies, true_and, and_true, and_self, forall_eq, bI_t, bI_f, Bool.false_eq_true, or_true, true_or, or_false, false_or, s1_ltx, if_true, if_false, Nat.add_zero, Nat.zero_add,  d_leF, d_leT, d_ltF, d_ltT, d_eqF, d_eqT] at ht
    exact ht
theorem m_brB (hwT : Tw T) (hw0 : Pw T P0) (hC : Cl P0 DN DL) (hrec : Rc9 T P0 DN DL rec n) (hn : n < P0.length) (e2 : (nd P0 n).1 = 2) (hK : RK P0 DN DL R) (hG : GX T P0 R X) (hr : r ≤ R.1.length) (hL : lcn R.1 r = L) (hok : okL (nd P0 n).2.2.2.2.2.2 L) (hl : L.length + n ≤ 23) (hm : (n, L) ∈ DN) : ∃ R2, RK P0 DN DL R2 ∧ GX T P0 R2 (xo (rx X n L)) ∧ RE n R R2 ∧ Sp9 T P0 R X R2 (xo (rx X n L)) (mo (rx X n L)) (brB rec (nI n) (sB r)) := by
  have h24 := hw0.1
  have e0 : (nd P0 n).1 ≠ 0 := by omega
  have e1 : (nd P0 n).1 ≠ 1 := by omega
  have hb : ¬ ((nd P0 n).1 = 4 ∧ (nd P0 n).2.2.2.1 = 0) := by omega
  have eb : (nd P0 n).2.2.1 ≠ 0 := ((hw0.2 n hn).2.2.2.2.2.1 e2).1
  have ha := (hw0.2 n hn).ab.1 e0
  have hbn := (hw0.2 n hn).ab.2 eb
  have hc9 := (hC.2.2 n L hm hn).2.2 e0 e1
  have dF := (hC.2.2 _ _ hc9.1 (show (nd P0 n).2.1 < P0.length by omega)).1
  have dS := (hC.2.2 _ _ (hc9.2 eb) (show (nd P0 n).2.2.1 - 1 < P0.length by omega)).1
  have lF : (cF P0 n L).length ≤ L.length := cF_l
  have lS : (cS P0 n L).length ≤ L.length := cS_l
  obtain ⟨R1, q1, K1, G1, E1, z1, y1, S1⟩ := st_part (sec := false) hC hw0 hK hG hn e2 hr hL (by omega) hok dF
  have y1 : lcn R1.1 q1 = cF P0 n L := y1
  obtain ⟨R2, K2, G2, E2, S2⟩ := hrec (nd P0 n).2.1 q1 (cF P0 n L) R1 X ha (by omega) K1 G1 z1 y1 (cF_ok hw0 hn hok) (by omega) hc9.1
  generalize h1 : rx X (nd P0 n).2.1 (cF P0 n L) = r1 at G2 S2
  have E12 : RE n R R2 := (E1.mono (Nat.zero_le _)).tr (E2.mono ha)
  obtain ⟨R3, q3, K3, G3, E3, z3, y3, S3⟩ := st_part (sec := true) hC hw0 K2 G2 hn e2 (Nat.le_trans hr E12.lc.1) ((E12.lc.2 r hr).trans hL) (by omega) hok dS
  have y3 : lcn R3.1 q3 = cS P0 n L := y3
  obtain ⟨R4, K4, G4, E4, S4⟩ := hrec ((nd P0 n).2.2.1 - 1) q3 (cS P0 n L) R3 (xo r1) hbn (by omega) K3 G3 z3 y3 (cS_ok hw0 hn eb hok) (by omega) (hc9.2 eb)
  generalize h2 : rx (xo r1) ((nd P0 n).2.2.1 - 1) (cS P0 n L) = r2 at G4 S4
  have E : RE n R R4 := (E12.tr (E3.mono (Nat.zero_le _))).tr (E4.mono hbn)
  have u1 := E1.2.1
  have v1 := E1.2.2.1
  have u2 := E2.2.1
  have v2 := E2.2.2.1
  have u3 := E3.2.1
  have v3 := E3.2.2.1
  have u4 := E4.2.1
  have v4 := E4.2.2.1
  refine ⟨R4, K4, gx_fin hw0 hG G2 K4 G4 hn e0 e1 h1 (by rw [if_neg eb, h2]) hok, E, fun S I c s post hA hc hs h => ?_⟩
  have hp := hA.nd hG hn
  unfold brB
  refine ⟨2 * (R1.2.1 - R.2.1) + 3 * (R1.2.2.2 - R.2.2.2), 256 * (R1.2.1 - R.2.1) + 384 * (R1.2.2.2 - R.2.2.2), by omega, by omega, ?_⟩
  refine S1 S I _ _ _ hA (Nat.le_refl _) (Nat.le_refl _) (fun S2' I2 hA2 hF2 => ?_)
  refine ⟨2 * (R2.2.1 - R1.2.1) + 3 * (R2.2.2.2 - R1.2.2.2), 256 * (R2.2.1 - R1.2.1) + 384 * (R2.2.2.2 - R1.2.2.2), by omega, by omega, ?_⟩
  simp (disch := omega) only [hp.2.1, fa_lit, nI_ltI, nI_leI, nI_eq, nI_add, pk_mul, nI_clamp, vp_in_nI, l_uk, l_n1, l_n1e, l_n1e2, l_n1l, l_n1l2, l_n1l3, not_true_eq_false, not_false_eq_true, true_implies, false_implies, true_and, and_true, and_self, forall_eq, bI_t, bI_f, Bool.false_eq_true, or_true, true_or, or_false, false_or, s1_ltx, if_true, if_false, Nat.add_zero, Nat.zero_add,  d_leF, d_leT, d_ltF, d_ltT, d_eqF, d_eqT]
  refine S2 S2' I2 _ _ _ hA2 (Nat.le_refl _) (Nat.le_refl _) (fun S3' I3 hA3 hF3 => ?_)
  have hp3 := hA3.nd G2 hn
  have h57 : I3 57 n = nI ((nd P0 n).2.2.1 - 1) := by
    rw [hp3.2.2.1]
    exact if_neg eb
  simp (disch := omega) only [h57, fa_lit, nI_ltI, nI_leI, nI_eq, nI_add, pk_mul, nI_clamp, vp_in_nI, l_uk, l_n1, l_n1e, l_n1e2, l_n1l, l_n1l2, l_n1l3, not_true_eq_false, not_false_eq_true, true_implies, false_implies, true_and, and_true, and_self, forall_eq, bI_t, bI_f, Bool.false_eq_true, or_true, true_or, or_false, false_or, s1_ltx, if_true, if_false, Nat.add_zero, Nat.zero_add,  d_leF, d_leT, d_ltF, d_ltT, d_eqF, d_eqT]
  refine ⟨2 * (R3.2.1 - R2.2.1) + 3 * (R3.2.2.2 - R2.2.2.2), 256 * (R3.2.1 - R2.2.1) + 384 * (R3.2.2.2 - R2.2.2.2), by omega, by omega, ?_⟩
  refine S3 S3' I3 _ _ _ hA3 (Nat.le_refl _) (Nat.le_refl _) (fun S4' I4 hA4 hF4 => ?_)
  refine ⟨2 * (R4.2.1 - R3.2.1) + 3 * (R4.2.2.2 - R3.2.2.2), 256 * (R4.2.1 - R3.2.1) + 384 * (R4.2.2.2 - R3.2.2.2), by omega, by omega, ?_⟩
  refine S4 S4' I4 _ _ _ hA4 (Nat.le_refl _) (Nat.le_refl _) (fun S5 I5 hA5 hF5 => ?_)
  have ht := tail2 (post := post) hwT hw0 hG G2 hn e0 e1 hb eb h1 h2 hok (by omega) hA5 (Nat.le_trans hr E.lc.1) ((E.lc.2 r hr).trans hL) (fun I6 hA6 hF6 => h S5 I6 hA6 (((hF2.tr hF3).tr (hF4.tr hF5)).tr hF6))
  unfold tl9 at ht
  simp (disch := omega) only [fa_lit, nI_ltI, nI_leI, nI_eq, nI_add, pk_mul, nI_clamp, vp_in_nI, l_uk, l_n1, l_n1e, l_n1e2, l_n1l, l_n1l2, l_n1l3, not_true_eq_false, not_false_eq_true, true_implies, false_implies, true_and, and_true, and_self, forall_eq, bI_t, bI_f, Bool.false_eq_true, or_true, true_or, or_false, false_or, s1_ltx, if_true, if_false, Nat.add_zero, Nat.zero_add,  d_leF, d_leT, d_ltF, d_ltT, d_eqF, d_eqT] at ht
  exact ht
theorem m_brC (hwT : Tw T) (hw0 : Pw T P0) (hC : Cl P0 DN DL) (hrec : Rc9 T P0 DN DL rec n) (hn : n < P0.length) (hb : (nd P0 n).1 = 4 ∧ (nd P0 n).2.2.2.1 = 0) (hK : RK P0 DN DL R) (hG : GX T P0 R X) (hr : r ≤ R.1.length) (hL : lcn R.1 r = L) (hok : okL (nd P0 n).2.2.2.2.2.2 L) (hl : L.length + n ≤ 23) (hm : (n, L) ∈ DN) : ∃ R2, RK P0 DN DL R2 ∧ GX T P0 R2 (xo (rx X n L)) ∧ RE n R R2 ∧ Sp9 T P0 R X R2 (xo (rx X n L)) (mo (rx X n L)) (brC rec (nI n) (sB r)) := by
  have h24 := hw0.1
  have e0 : (nd P0 n).1 ≠ 0 := by omega
  have e1 : (nd P0 n).1 ≠ 1 := by omega
  have hq4 := (hw0.2 n hn).2.2.2.2.2.2.2 hb.1
  have eb : (nd P0 n).2.2.1 ≠ 0 := hq4.1
  have ha := (hw0.2 n hn).ab.1 e0
  have hbn := (hw0.2 n hn).ab.2 eb
  have hc9 := (hC.2.2 n L hm hn).2.2 e0 e1
  obtain ⟨eF, eS, eD⟩ := cF_a (L := L) hb
  have lF : (cF P0 n L).length ≤ L.length := cF_l
  have lS : (cS P0 n L).length ≤ L.length := cS_l
  obtain ⟨R1, K1, G1, E1, S1⟩ := hrec (nd P0 n).2.1 r (cF P0 n L) R X ha (by omega) hK hG hr (hL.trans eF.symm) (cF_ok hw0 hn hok) (by omega) hc9.1
  generalize h1 : rx X (nd P0 n).2.1 (cF P0 n L) = r1 at G1 S1
  obtain ⟨R2, K2, G2, E2, S2⟩ := hrec ((nd P0 n).2.2.1 - 1) r (cS P0 n L) R1 (xo r1) hbn (by omega) K1 G1 (Nat.le_trans hr E1.lc.1) (((E1.lc.2 r hr).trans hL).trans eS.symm) (cS_ok hw0 hn eb hok) (by omega) (hc9.2 eb)
  generalize h2 : rx (xo r1) ((nd P0 n).2.2.1 - 1) (cS P0 n L) = r2 at G2 S2
  have E : RE n R R2 := (E1.mono ha).tr (E2.mono hbn)
  have u1 := E1.2.1
  have v1 := E1.2.2.1
  have u2 := E2.2.1
  have v2 := E2.2.2.1
  refine ⟨R2, K2, gx_fin hw0 hG G1 K2 G2 hn e0 e1 h1 (by rw [if_neg eb, h2]) hok, E, fun S I c s post hA hc hs h => ?_⟩
  have hp := hA.nd hG hn
  unfold brC
  refine ⟨2 * (R1.2.1 - R.2.1) + 3 * (R1.2.2.2 - R.2.2.2), 256 * (R1.2.1 - R.2.1) + 384 * (R1.2.2.2 - R.2.2.2), by omega, by omega, ?_⟩
  simp (disch := omega) only [hp.2.1, fa_lit, nI_ltI, nI_leI, nI_eq, nI_add, pk_mul, nI_clamp, vp_in_nI, l_uk, l_n1, l_n1e, l_n1e2, l_n1l, l_n1l2, l_n1l3, not_true_eq_false, not_false_eq_true, true_implies, false_implies, true_and, and_true, and_self, forall_eq, bI_t, bI_f, Bool.false_eq_true, or_true, true_or, or_false, false_or, s1_ltx, if_true, if_false, Nat.add_zero, Nat.zero_add,  d_leF, d_leT, d_ltF, d_ltT, d_eqF, d_eqT]
  refine S1 S I _ _ _ hA (Nat.le_refl _) (Nat.le_refl _) (fun S2' I2 hA2 hF2 => ?_)
  have hp2 := hA2.nd G1 hn
  have h57 : I2 57 n = nI ((nd P0 n).2.2.1 - 1) := by
    rw [hp2.2.2.1]
    exact if_neg eb
  refine ⟨2 * (R2.2.1 - R1.2.1) + 3 * (R2.2.2.2 - R1.2.2.2), 256 * (R2.2.1 - R1.2.1) + 384 * (R2.2.2.2 - R1.2.2.2), by omega, by omega, ?_⟩
  simp (disch := omega) only [h57, fa_lit, nI_ltI, nI_leI, nI_eq, nI_add, pk_mul, nI_clamp, vp_in_nI, l_uk, l_n1, l_n1e, l_n1e2, l_n1l, l_n1l2, l_n1l3, not_true_eq_false, not_false_eq_true, true_implies, false_implies, true_and, and_true, and_self, forall_eq, bI_t, bI_f, Bool.false_eq_true, or_true, true_or, or_false, false_or, s1_ltx, if_true, if_false, Nat.add_zero, Nat.zero_add,  d_leF, d_leT, d_ltF, d_ltT, d_eqF, d_eqT]
  refine S2 S2' I2 _ _ _ hA2 (Nat.le_refl _) (Nat.le_refl _) (fun S3 I3 hA3 hF3 => ?_)
  rw [rx_s hw0 hG hn e0 e1 h1] at h
  simp only [if_neg eb] at h
  cases r1 with
  | none =>
    have e : r2 = none := h2.symm
    subst e
    obtain ⟨hT, hAT, ⟨P, hx, hw, hP⟩, h32⟩ := hA3
    refine m_place_full h32 ?_
    have hF3' : FP I3 (q_u2 I3 51 32 (nI 1)) := ⟨fun b x _ => nr_u2 x, fun j _ y => q_u2_j _ _ _ y⟩
    have hP3 : Pm (q_u2 I3 51 32 (nI 1)) P := ⟨by rw [q_u2_j _ _ _ (by omega)]; exact hP.1, fun n hn => by simp (disch := omega) only [nr_u2]; exact hP.2 n hn⟩
    exact h S3 (q_u2 I3 51 32 (nI 1)) ⟨hF3'.fc.tm hT, hAT.fc hF3'.fc, ⟨P, hx, hw, hP3⟩, q_u2_s _ _ _ _⟩ ((hF2.tr hF3).tr hF3'.fc.fr)
  | some q =>
    obtain ⟨a, P1⟩ := q
    obtain ⟨P, eX, -, x1, x01, w1, d1, a1, a2⟩ := rx_ok hG (by omega) (cF_ok hw0 hn hok) h1
    have h2 : rx (some P1) ((nd P0 n).2.2.1 - 1) (cS P0 n L) = r2 := h2
    replace h : ∀ S2 I2, At T P0 S2 I2 R2 (xo ((rx (some P1) ((nd P0 n).2.2.1 - 1) (cS P0 n L)).bind (fun r2 => Zt P0 n L a (r2.1 + 1) r2.2))) → FR I I2 → post (mo ((rx (some P1) ((nd P0 n).2.2.1 - 1) (cS P0 n L)).bind (fun r2 => Zt P0 n L a (r2.1 + 1) r2.2))) S2 I2 := h
    rw [h2] at h
    cases r2 with
    | none =>
      obtain ⟨hT, hAT, ⟨P, hx, hw, hP⟩, h32⟩ := hA3
      refine m_place_full h32 ?_
      have hF3' : FP I3 (q_u2 I3 51 32 (nI 1)) := ⟨fun b x _ => nr_u2 x, fun j _ y => q_u2_j _ _ _ y⟩
      have hP3 : Pm (q_u2 I3 51 32 (nI 1)) P := ⟨by rw [q_u2_j _ _ _ (by omega)]; exact hP.1, fun n hn => by simp (disch := omega) only [nr_u2]; exact hP.2 n hn⟩
      exact h S3 (q_u2 I3 51 32 (nI 1)) ⟨hF3'.fc.tm hT, hAT.fc hF3'.fc, ⟨P, hx, hw, hP3⟩, q_u2_s _ _ _ _⟩ ((hF2.tr hF3).tr hF3'.fc.fr)
    | some q2 =>
      obtain ⟨b, P2⟩ := q2
      obtain ⟨P', eX', -, x2, x02, w2, d2, b1, b2⟩ := rx_ok (X := some P1) G1 (by omega) (cS_ok hw0 hn eb hok) h2
      cases eX'
      have hl2 : P1.length ≤ P2.length := x2.le
      have hq : nW T P2 P2.length (rb (nd P0 n) a (b + 1)) := rb_a (a := a) (b := b + 1) hw0 hn e0 w2 (Nat.lt_of_lt_of_le a1 hl2) (by rw [x2.g a1]; exact a2) (fun z => absurd z eb) (fun _ => ⟨Nat.succ_ne_zero b, b1, b2⟩)
      obtain ⟨hT, hAT, hP, h32⟩ := hA3
      have k1 : o1 (rb (nd P0 n) a (b + 1)) = nI 0 := by
        unfold o1
        have e4 : (rb (nd P0 n) a (b + 1)).1 = 4 := hb.1
        rw [if_pos (Or.inr e4)]
        exact congrArg nI hb.2
      have k2 : o2 (rb (nd P0 n) a (b + 1)) = nI 0 := by
        unfold o2
        have e4 : (rb (nd P0 n) a (b + 1)).1 = 4 := hb.1
        rw [if_neg (by omega), if_neg (by omega)]
        exact congrArg nI hq4.2.2.2.1
      have k3 : o3 (rb (nd P0 n) a (b + 1)) = nI 0 := by
        unfold o3
        have e4 : (rb (nd P0 n) a (b + 1)).1 = 4 := hb.1
        rw [if_neg (by omega)]
        exact hq4.2.2.2.2.1
      have k0 : nI (rb (nd P0 n) a (b + 1)).1 = nI 4 := congrArg nI hb.1
      have hZ : ∀ o, mk P2 (rb (nd P0 n) a (b + 1)) = o → Zt P0 n L a (b + 1) P2 = o := fun o ho => by
        unfold Zt
        rw [ho, eD]
        cases o <;> rfl
      have hpl := m_place (q := rb (nd P0 n) a (b + 1)) (post := fun x I9 => post x S3 I9) hT hwT hP w2 hq h32 (fun d P4 I4 em hP4 h4 hF4 => by
        replace h : ∀ S2 I2, At T P0 S2 I2 R2 (xo (Zt P0 n L a (b + 1) P2)) → FR I I2 → post (mo (Zt P0 n L a (b + 1) P2)) S2 I2 := h
        rw [hZ _ em] at h
        exact h S3 I4 ⟨hF4.fc.tm hT, hAT.fc hF4.fc, hP4, h4⟩ ((hF2.tr hF3).tr hF4.fc.fr)) (fun em => by
        replace h : ∀ S2 I2, At T P0 S2 I2 R2 (xo (Zt P0 n L a (b + 1) P2)) → FR I I2 → post (mo (Zt P0 n L a (b + 1) P2)) S2 I2 := h
        rw [hZ _ em] at h
        have hF3' : FP I3 (q_u2 I3 51 32 (nI 1)) := ⟨fun b x _ => nr_u2 x, fun j _ y => q_u2_j _ _ _ y⟩
        have hP3 : Pm (q_u2 I3 51 32 (nI 1)) P2 := ⟨by rw [q_u2_j _ _ _ (by omega)]; exact hP.1, fun n hn => by simp (disch := omega) only [nr_u2]; exact hP.2 n hn⟩
        exact h S3 (q_u2 I3 51 32 (nI 1)) ⟨hF3'.fc.tm hT, hAT.fc hF3'.fc, ⟨P2, x02, w2, hP3⟩, q_u2_s _ _ _ _⟩ ((hF2.tr hF3).tr hF3'.fc.fr))
      rw [k0, k1, k2, k3] at hpl
      exact hpl
end BR
