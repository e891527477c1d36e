/-! pure: the reference's rewriting whole -/
section FN
variable {T : QT} {P0 : List Nd} {DN : List (Nat × List Nat)} {DL : List (List Nat)} {R : RS} {n r : Nat} {L : List Nat} {rec : Rec9}
theorem rw1_0 {P : List Nd} (hd : Pd P) (hn : n < P.length) (e0 : (nd P n).1 = 0) (hb : (nd P n).2.2.1 = 0) : rw1 P n L = chn (nd P n).2.2.2.2.2.2 P n (dsc (L.drop (fre P n L))) := by
  have em : mk P ((nd P n).1, (nd P n).2.1, 0, (nd P n).2.2.2.1, (nd P n).2.2.2.2.1, (nd P n).2.2.2.2.2.1, (nd P n).2.2.2.2.2.2) = some (n, P) := by
    have e9 : ((nd P n).1, (nd P n).2.1, 0, (nd P n).2.2.2.1, (nd P n).2.2.2.2.1, (nd P n).2.2.2.2.2.1, (nd P n).2.2.2.2.2.2) = nd P n := by
      rw [← hb]
    rw [e9]
    unfold mk
    rw [hd n hn]
  unfold rw1
  rw [rwS, if_neg (by omega), if_pos e0]
  show (match (if (nd P n).2.2.1 = 0 then some (0, P) else (rwS n P ((nd P n).2.2.1 - 1) (cS P n L)).map (fun r => (r.1 + 1, r.2))) with
      | none => none
      | some r2 => match mk r2.2 ((nd P n).1, (nd P n).2.1, r2.1, (nd P n).2.2.2.1, (nd P n).2.2.2.2.1, (nd P n).2.2.2.2.2.1, (nd P n).2.2.2.2.2.2) with
        | none => none
        | some r3 => chn (nd P n).2.2.2.2.2.2 r3.2 r3.1 (dsc (L.drop (fre P n L)))) = _
  rw [if_pos hb]
  show (match mk P ((nd P n).1, (nd P n).2.1, 0, (nd P n).2.2.2.1, (nd P n).2.2.2.2.1, (nd P n).2.2.2.2.2.1, (nd P n).2.2.2.2.2.2) with
        | none => none
        | some r3 => chn (nd P n).2.2.2.2.2.2 r3.2 r3.1 (dsc (L.drop (fre P n L)))) = _
  rw [em]
theorem m_become {P : List Nd} (hwT : Tw T) (hw0 : Pw T P0) (hC : Cl P0 DN DL) (hrec : Rc9 T P0 DN DL rec n) (hn : n < P0.length) (e1 : (nd P0 n).1 ≠ 1) (hK : RK P0 DN DL R) (hG : GX T P0 R (some P)) (hr : r ≤ R.1.length) (hL : lcn R.1 r = L) (hok : okL (nd P0 n).2.2.2.2.2.2 L) (hl : L.length + n ≤ 23) (hm : (n, L) ∈ DN) : ∃ R2, RK P0 DN DL R2 ∧ GX T P0 R2 (xo (rx (some P) n L)) ∧ RE n R R2 ∧ Sp9 T P0 R (some P) R2 (xo (rx (some P) n L)) (mo (rx (some P) n L)) (wX8_become rec (nI n) (sB r)) := by
  have h24 := hw0.1
  have hv : vp_in (nI n) 24 := by simp (disch := omega) only [fa_lit, nI_ltI, nI_leI, nI_eq, nI_add, pk_mul, nI_clamp, vp_in_nI, l_uk, l_n1, l_n1e, l_n1e2, l_n1l, l_n1l2, l_n1l3, not_true_eq_false, not_false_eq_true, true_implies, false_implies, true_and, and_true, and_self, forall_eq, bI_t, bI_f, Bool.false_eq_true, or_true, true_or, or_false, false_or, s1_ltx, if_true, if_false, Nat.add_zero, Nat.zero_add,  d_leF, d_leT, d_ltF, d_ltT, d_eqF, d_eqT]
  have b5 : (nd P0 n).1 < 5 := (hw0.2 n hn).1.1
  by_cases e0 : (nd P0 n).1 = 0
  · obtain ⟨hx, hw, hd, hp⟩ := hG P rfl
    have hle := hx.le
    have en : nd P n = nd P0 n := hx.g hn
    have hb0 : (nd P0 n).2.2.1 = 0 := ((hw0.2 n hn).2.2.1 e0).2.1
    have er : rx (some P) n L = chn (nd P n).2.2.2.2.2.2 P n (dsc (L.drop (fre P n L))) := rw1_0 hd (by omega) (by rw [en]; exact e0) (by rw [en]; exact hb0)
    refine ⟨R, hK, hG.up hw0.sw hK (fun P2 e2 => ?_), RE.rf _ _, fun S I c s post hA hc hs h => ?_⟩
    · rw [er] at e2
      cases ec : chn (nd P n).2.2.2.2.2.2 P n (dsc (L.drop (fre P n L))) with
      | none => rw [ec] at e2; cases e2
      | some z =>
        rw [ec] at e2
        cases e2
        obtain ⟨w4, d4, x4, -, -⟩ := chn_ok hw hd (show n < P.length by omega) rfl (okL_dsc (okL_drop (by rw [en]; exact hok))) ec
        exact ⟨P, rfl, x4, w4, d4⟩
    · have hp55 := (hA.nd hG hn).1
      rw [e0] at hp55
      unfold wX8_become
      refine ⟨hv, fun z => absurd ?_ z, fun _ => ?_⟩
      · rw [nI_clamp (by omega)]
        exact hp55
      · obtain ⟨C, u, PS, v⟩ := R
        obtain ⟨hT, hAT, hP, h32⟩ := hA
        rw [er] at h
        refine m_withChain (n := n) (a := n) hT hwT hP hw hd (by omega) (by rw [en]; omega) (by omega) rfl (by rw [en]; exact hok) hAT hr hL (by omega) h32 (fun b P4 I4 ec hP4 h4 hF4 => ?_) (fun P4 I4 ec x4 w4 hP4 h4 hF4 => ?_)
        · rw [ec] at h
          exact h S I4 ⟨hF4.tm hT, hAT.fc hF4, hP4, h4⟩ hF4.fr
        · rw [ec] at h
          exact h S I4 ⟨hF4.tm hT, hAT.fc hF4, ⟨P4, hx.tr x4, w4, hP4⟩, h4⟩ hF4.fr
  · by_cases e2 : (nd P0 n).1 = 2
    · obtain ⟨R2, k1, k2, k3, k4⟩ := m_brB hwT hw0 hC hrec hn e2 hK hG hr hL hok hl hm
      refine ⟨R2, k1, k2, k3, fun S I c s post hA hc hs h => ?_⟩
      have hp55 : I 55 (nI n).toNatClampNeg = nI 2 := by
        rw [nI_clamp (by omega), ← e2]
        exact (hA.nd hG hn).1
      have hgo := k4 S I c s post hA hc hs h
      unfold wX8_become
      rw [hp55]
      exact ⟨hv, fun _ => ⟨hv, fun _ => ⟨hv, fun z => absurd rfl z, fun _ => ⟨hv, hgo⟩⟩, fun z => absurd z (by decide)⟩, fun z => absurd z (by decide)⟩
    · by_cases hb : (nd P0 n).1 = 4 ∧ (nd P0 n).2.2.2.1 = 0
      · obtain ⟨R2, k1, k2, k3, k4⟩ := m_brC hwT hw0 hC hrec hn hb hK hG hr hL hok hl hm
        refine ⟨R2, k1, k2, k3, fun S I c s post hA hc hs h => ?_⟩
        have hp55 : I 55 (nI n).toNatClampNeg = nI 4 := by
          rw [nI_clamp (by omega), ← hb.1]
          exact (hA.nd hG hn).1
        have hp58 : I 58 (nI n).toNatClampNeg = nI 0 := by
          rw [nI_clamp (by omega), (hA.nd hG hn).2.2.2.1]
          unfold o1
          rw [if_pos (Or.inr hb.1), hb.2]
        have hgo := k4 S I c s post hA hc hs h
        unfold wX8_become
        rw [hp55, hp58]
        exact ⟨hv, fun _ => ⟨hv, fun z => absurd rfl z, fun _ => ⟨hv, fun z => absurd rfl z, fun _ => ⟨hv, hgo⟩⟩⟩, fun z => absurd z (by decide)⟩
      · obtain ⟨R2, k1, k2, k3, k4⟩ := m_brA hwT hw0 hC hrec hn e0 e1 e2 hb hK hG hr hL hok hl hm
        refine ⟨R2, k1, k2, k3, fun S I c s post hA hc hs h => ?_⟩
        have hgo := k4 S I c s post hA hc hs h
        have hnd := hA.nd hG hn
        by_cases e4 : (nd P0 n).1 = 4
        · have hp55 : I 55 (nI n).toNatClampNeg = nI 4 := by
            rw [nI_clamp (by omega), ← e4]
            exact hnd.1
          have hp58 : I 58 (nI n).toNatClampNeg ≠ nI 0 := by
            have q4 := (hw0.2 n hn).2.2.2.2.2.2.2 e4
            rw [nI_clamp (by omega), hnd.2.2.2.1]
            unfold o1
            rw [if_pos (Or.inr e4)]
            intro z
            rw [nI_eq (by omega) (by omega)] at z
            exact hb ⟨e4, z⟩
          unfold wX8_become
          rw [hp55]
          exact ⟨hv, fun _ => ⟨hv, fun z => absurd rfl z, fun _ => ⟨hv, fun _ => ⟨hv, fun _ => ⟨hv, hgo⟩, fun z => absurd z (by decide)⟩, fun z => absurd z hp58⟩⟩, fun z => absurd z (by decide)⟩
        · have hp55 : I 55 (nI n).toNatClampNeg = nI 3 := by
            rw [nI_clamp (by omega), show (3 : Nat) = (nd P0 n).1 by omega]
            exact hnd.1
          unfold wX8_become
          rw [hp55]
          exact ⟨hv, fun _ => ⟨hv, fun _ => ⟨hv, fun _ => ⟨hv, hgo⟩, fun z => absurd z (by decide)⟩, fun z => absurd z (by decide)⟩, fun z => absurd z (by decide)⟩
end FN
