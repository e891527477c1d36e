/-! pure: the law's calls: same -/
section LC
variable {K : Int32 → QS → QI → QJ → Nat → Nat → Prop} {post : Int32 → Prop} {i k n : Nat} {Z : Zs} {S : QS} {I : QI} {J : QJ}
theorem sm_end {T : QT} {P : List Nd} {bu : Nat} {Kk Vv : List Q4} {n1 n2 : Nat} {cd : Int32} {J4 : QJ} (hK : Kw9 K i) (h : Lc i (T, P, bu, Kk, Vv) (T, P, bu, Kk, Vv) S I k n) (h1 : n1 < P.length) (h2 : n2 < P.length) (hcd : cd = if psb T P n1 bu && psb T P n2 bu then nI 0 else nI 2) (hJ : psb T P n1 bu = true → psb T P n2 bu = true → J4 79 0 = if sameR T P n1 n2 then Int64.ofNat ((1 : Fin 2) : Nat) else Int64.ofNat ((0 : Fin 2) : Nat)) : wX8_same (nI n1) (nI n2) I J4 (fun r6 I4 J5 => fin10 K post (nI (6 * i)) S I4 J5 (k + 1) (n + 6) cd r6) := by
  have h9 := h
  obtain ⟨hi, hw, -, -, hm, -⟩ := h
  obtain ⟨hwT, hwP, hd, hbu, hw5⟩ := hw
  obtain ⟨m1, m2, m3, m4, m5⟩ := hm
  refine m_sameJ m1 hwT m2 hwP h1 h2 m3 hbu (fun x I5 J5 hF hj hJ5 h0 hx => ?_)
  obtain ⟨q1, q2⟩ := Fm.of9 hF hj
  refine m_fin10 hi (h0.trans hcd.symm) (fun z => ?_) (hK _ S _ J5 _ _ (h9.fm q1 q2))
  cases p1 : psb T P n1 bu
  · rw [p1, z, Bool.false_and] at hcd
    exact absurd hcd (by decide)
  · cases p2 : psb T P n2 bu
    · rw [p1, p2, z] at hcd
      exact absurd hcd (by decide)
    · have ex : x = bI (sameR T P n1 n2) := hx p1 p2
      have ej := hJ p1 p2
      rw [hJ5 79 (by omega), ej, ex]
      cases sameR T P n1 n2
      · exact ⟨fun _ => rfl, fun z => absurd rfl z⟩
      · exact ⟨fun z => absurd z (by decide), fun _ => rfl⟩
theorem b_same {V1 V2 : Prop} {a1 a2 : Int32} (hV : V1 ∧ V2) (hK : Kw9 K i) (h : LR i Z S I k n) (hi : i < 512) : wL_same a1 a2 I J (fun r1 I2 J3 => V1 ∧ (V2 ∧ wX8_same a1 a2 I2 J3 (fun r6 I4 J5 => fin10 K post (nI (6 * i)) S I4 J5 (k + 1) (n + 6) r1 r6))) := by
  have hL := h.nc hi
  obtain ⟨T, P, bu, Kk, Vv⟩ := Z
  obtain ⟨hwT, hwP, hd, hbu, hw5⟩ := h.2.1
  have hRc := h.2.2.1
  obtain ⟨c1, hPc, ⟨ch, ch0, c3⟩, c4, c5, c6⟩ := h.2.2.1
  obtain ⟨m1, hPm, m3, m4, m5⟩ := h.2.2.2.1
  replace hwT : Tw T := hwT
  replace hwP : Pw T P := hwP
  replace c1 : Tc I T := c1
  replace c3 : Ca I T P ch := c3
  replace hPc : Pc I P := hPc
  replace hPm : Pm I P := hPm
  replace c4 : I 0 6 = nI bu := c4
  have h24 := hwP.1
  obtain ⟨hV1, hV2⟩ := hV
  unfold wL_same wX7_same
  rcases ixc a1 P.length (by omega) with ⟨n1, h1, rfl⟩ | hx
  · rcases ixc a2 P.length (by omega) with ⟨n2, h2, rfl⟩ | hx
    · refine p_has hPc hwP h1 ⟨fun z => absurd z (by decide), fun _ => p_has hPc hwP h2 ⟨fun _ => ?_, fun z => absurd z (by decide)⟩⟩
      rw [c4]
      refine p_isPossibleK c1 hwT hPc hwP c3 (by omega) h1 hbu (fun I3 hF3 hCa3 hO3 h273 hmo3 => ?_)
      have hL3 : Lc i (T, P, bu, Kk, Vv) (T, P, bu, Kk, Vv) S I3 k n := h.lc hi h.2.1 (hRc.ps hF3 hCa3 ch0).up (fun b hb => hF3 b (by omega))
      cases p1 : psb T P n1 bu
      · exact ⟨fun _ => Or.inr ⟨rfl, hV1, hV2, sm_end hK hL3 h1 h2 (by rw [p1]; rfl) (fun z => absurd (p1.symm.trans z) (by decide))⟩, fun z => absurd rfl z⟩
      · refine ⟨fun z => absurd z (by decide), fun _ => ?_⟩
        have c43 : I3 0 6 = nI bu := by rw [hF3 0 (by omega)]; exact c4
        rw [c43]
        refine p_isPossibleK (c1.cg (fun b hb => hF3 b (by omega))) hwT (hPc.cg (fun b _ hb => hF3 b (by omega))) hwP hCa3 (by omega) h2 hbu (fun I5 hF5 hCa5 hO5 h275 hmo5 => ?_)
        have hF5' : ∀ b, b < 24 ∨ 30 ≤ b → I5 b = I b := fun b hb => (hF5 b hb).trans (hF3 b hb)
        cases p2 : psb T P n2 bu
        · have hL5 : Lc i (T, P, bu, Kk, Vv) (T, P, bu, Kk, Vv) S I5 k n := h.lc hi h.2.1 (hRc.ps hF5' hCa5 ch0).up (fun b hb => hF5' b (by omega))
          exact ⟨fun z => absurd rfl z, fun _ => Or.inr ⟨rfl, hV1, hV2, sm_end hK hL5 h1 h2 (by rw [p1, p2]; rfl) (fun _ z => absurd (p2.symm.trans z) (by decide))⟩⟩
        · obtain ⟨⟨A, eA⟩, -⟩ := psb_t p1
          obtain ⟨⟨B, eB⟩, -⟩ := psb_t p2
          have hO1 : OKc I5 T P n1 := ((hCa5.2 n1 (by omega)).2 (hmo5 n1 (by omega) h273)).2
          have eR : sameR T P n1 n2 = (decide ((nd P n1).2.2.2.2.2.2 = (nd P n2).2.2.2.2.2.2 ∧ A.length = B.length) && (er A B).isSome) := by
            unfold sameR
            rw [eA, eB]
          refine ⟨fun _ => ?_, fun z => absurd z (by decide)⟩
          refine p_haveSameRows (hPc.cg (fun b _ hb => hF5' b (by omega))) hwP h1 h2 (hO1.s eA).1 (hO5.s eB).1 (fun I7 hF7 => ?_)
          rw [← eR]
          have hF7' : ∀ b, b < 24 ∨ 30 ≤ b → I7 b = I b := fun b hb => (hF7 b (by omega)).trans (hF5' b hb)
          have hCa7 : Ca I7 T P ch := hCa5.cg hwP (by rw [hF7 1 (by omega)]) (fun b _ _ => hF7 b (by omega))
          have hL7 : Lc i (T, P, bu, Kk, Vv) (T, P, bu, Kk, Vv) S I7 k n := h.lc hi h.2.1 (hRc.ps hF7' hCa7 ch0).up (fun b hb => hF7' b (by omega))
          have go : ∀ J4 : QJ, (J4 79 0 = if sameR T P n1 n2 then Int64.ofNat ((1 : Fin 2) : Nat) else Int64.ofNat ((0 : Fin 2) : Nat)) → V1 ∧ (V2 ∧ wX8_same (nI n1) (nI n2) I7 J4 (fun r6 I4 J5 => fin10 K post (nI (6 * i)) S I4 J5 (k + 1) (n + 6) 0 r6)) := fun J4 e4 => ⟨hV1, hV2, sm_end hK hL7 h1 h2 (by rw [p1, p2]; rfl) (fun _ _ => e4)⟩
          have hv0 : vp_in 0 1 := (show vp_in (nI 0) 1 by simp (disch := omega) only [fa_lit, nI_ltI, nI_leI, nI_eq, nI_add, pk_mul, nI_clamp, vp_in_nI, l_uk, l_n1, l_n1e, l_n1e2, l_n1l, l_n1l2, l_n1l3, not_true_eq_false, not_false_eq_true, true_implies, false_implies, true_and, and_true, and_self, forall_eq, bI_t, bI_f, Bool.false_eq_true, or_true, true_or, or_false, false_or, s1_ltx, if_true, if_false, Nat.add_zero, Nat.zero_add,  d_leF, d_leT, d_ltF, d_ltT, d_eqF, d_eqT])
          cases eS : sameR T P n1 n2
          · rw [eS] at go
            exact ⟨Or.inl rfl, fun _ => ⟨hv0, fun J4 e4 => go J4 (by rw [e4]; exact q_u2_s _ _ _ _)⟩, fun z => absurd rfl z⟩
          · rw [eS] at go
            exact ⟨Or.inr rfl, fun z => absurd z (by decide), fun _ => ⟨hv0, fun J4 e4 => go J4 (by rw [e4]; exact q_u2_s _ _ _ _)⟩⟩
    · refine p_has hPc hwP h1 ⟨fun z => absurd z (by decide), fun _ => p_has_f hPc hx ⟨fun z => absurd rfl z, fun _ => Or.inl ⟨rfl, hV1, hV2, ?_⟩⟩⟩
      unfold wX8_same
      refine m_isNode hPm hwP h1 ⟨fun z => absurd z (by decide), fun _ => m_isNode_f hPm hwP hx ⟨fun _ => ?_, fun z => absurd rfl z⟩⟩
      exact m_goesWell_n (by decide) ⟨fun z => absurd rfl z, fun _ => m_no10 hK hL (by decide)⟩
  · refine p_has_f hPc hx ⟨fun _ => Or.inl ⟨rfl, hV1, hV2, ?_⟩, fun z => absurd rfl z⟩
    unfold wX8_same
    refine m_isNode_f hPm hwP hx ⟨fun _ => ?_, fun z => absurd rfl z⟩
    exact m_goesWell_n (by decide) ⟨fun z => absurd rfl z, fun _ => m_no10 hK hL (by decide)⟩
theorem L_10 {X : QX} (hl : X.2.1.2.1 ≤ 3072) (hi6 : 6 * i + 6 ≤ X.2.1.2.1) (hK : Kw9 K i) (h : LR i Z S I k n) : wL_c10 X K post (nI (6 * i)) S I J k n := by
  have hv : ∀ j : Nat, j < 6 → vp_in (nI (6 * i) + nI j) X.2.1.2.1 := fun j hj => by simp (disch := omega) only [fa_lit, nI_ltI, nI_leI, nI_eq, nI_add, pk_mul, nI_clamp, vp_in_nI, l_uk, l_n1, l_n1e, l_n1e2, l_n1l, l_n1l2, l_n1l3, not_true_eq_false, not_false_eq_true, true_implies, false_implies, true_and, and_true, and_self, forall_eq, bI_t, bI_f, Bool.false_eq_true, or_true, true_or, or_false, false_or, s1_ltx, if_true, if_false, Nat.add_zero, Nat.zero_add,  d_leF, d_leT, d_ltF, d_ltT, d_eqF, d_eqT]
  have hkn := h.kn
  exact ⟨hv 1 (by omega), hv 2 (by omega), hkn.1, hkn.2, b_same ⟨hv 1 (by omega), hv 2 (by omega)⟩ hK h (by omega)⟩
end LC
