/-! pure: the law's calls: cell -/
section LC
variable {K : Int32 → QS → QI → QJ → Nat → Nat → Prop} {post : Int32 → Prop} {i k n : Nat} {Z : Zs} {S : QS} {I : QI} {J : QJ}
theorem nI_nn {c : Nat} (h : c < 2 ^ 30) : ¬ nI c < 0 := by
  show ¬ nI c < nI 0
  simp (disch := omega) only [fa_lit, nI_ltI, nI_leI, nI_eq, nI_add, pk_mul, nI_clamp, vp_in_nI, l_uk, l_n1, l_n1e, l_n1e2, l_n1l, l_n1l2, l_n1l3, not_true_eq_false, not_false_eq_true, true_implies, false_implies, true_and, and_true, and_self, forall_eq, bI_t, bI_f, Bool.false_eq_true, or_true, true_or, or_false, false_or, s1_ltx, if_true, if_false, Nat.add_zero, Nat.zero_add,  d_leF, d_leT, d_ltF, d_ltT, d_eqF, d_eqT]
theorem p_col {P : List Nd} {T : QT} {m c : Nat} {Q : Int32 → Prop} (hP : Pc I P) (hw : Pw T P) (hm : m < P.length) (hc : c < (nd P m).2.2.2.2.2.2) (h : Q 1) : wX2_hasColumn (nI m) (nI c) I Q := by
  have w6 := (hw.2 m hm).1.2.2.2.2.2.2
  refine ⟨fun z => absurd z (nI_nn (by omega)), fun _ => p_widthOf hP hw hm ⟨fun z => ?_, fun _ => h⟩⟩
  rw [nI_leI (by omega) (by omega)] at z
  omega
theorem p_col_f {P : List Nd} {T : QT} {m : Nat} {x : Int32} {Q : Int32 → Prop} (hP : Pc I P) (hw : Pw T P) (hm : m < P.length) (hx : x < 0 ∨ nI (nd P m).2.2.2.2.2.2 ≤ x) (h : Q 0) : wX2_hasColumn (nI m) x I Q := ⟨fun _ => h, fun y => p_widthOf hP hw hm ⟨fun _ => h, fun y2 => absurd hx (not_or.2 ⟨y, y2⟩)⟩⟩
theorem p_col_f1 {P : List Nd} {y x : Int32} {Q : Int32 → Prop} (hP : Pc I P) (hy : y < 0 ∨ nI P.length ≤ y) (h : Q 0) : wX2_hasColumn y x I Q := ⟨fun _ => h, fun z => p_widthOf_f hP hy ⟨fun _ => h, fun z2 => absurd (Int32.not_lt.1 z) z2⟩⟩
theorem b_cell {V1 V2 V3 : Prop} {a1 a2 a3 : Int32} (hV : V1 ∧ V2 ∧ V3) (hK : Kw9 K i) (h : LR i Z S I k n) (hi : i < 512) : wL_cell a1 a2 a3 I J (fun r1 I2 J3 => V1 ∧ (V2 ∧ (V3 ∧ wX8_cell a1 a2 a3 I2 J3 (fun r6 I4 J5 => fin9 K post (nI (6 * i)) S I4 J5 (k + 1) (n + 6) r1 r6)))) := by
  have hL := h.nc hi
  obtain ⟨T, P, bu, Kk, Vv⟩ := Z
  obtain ⟨hwT, hwP, hd, hbu, hw5⟩ := h.2.1
  have hRc := h.2.2.1
  obtain ⟨c1, hPc, ⟨ch, ch0, c3⟩, c4, c5, c6⟩ := h.2.2.1
  obtain ⟨m1, hPm, m3, m4, m5⟩ := h.2.2.2.1
  replace hwP : Pw T P := hwP
  replace hPc : Pc I P := hPc
  replace hPm : Pm I P := hPm
  replace c4 : I 0 6 = nI bu := c4
  have h24 := hwP.1
  obtain ⟨hV1, hV2, hV3⟩ := hV
  unfold wL_cell wX7_cell
  rcases ixc a1 P.length (by omega) with ⟨m, hm, rfl⟩ | hx
  · have hv : vp_in (nI m) 24 := by simp (disch := omega) only [fa_lit, nI_ltI, nI_leI, nI_eq, nI_add, pk_mul, nI_clamp, vp_in_nI, l_uk, l_n1, l_n1e, l_n1e2, l_n1l, l_n1l2, l_n1l3, not_true_eq_false, not_false_eq_true, true_implies, false_implies, true_and, and_true, and_self, forall_eq, bI_t, bI_f, Bool.false_eq_true, or_true, true_or, or_false, false_or, s1_ltx, if_true, if_false, Nat.add_zero, Nat.zero_add,  d_leF, d_leT, d_ltF, d_ltT, d_eqF, d_eqT]
    have ec : (nI m).toNatClampNeg = m := nI_clamp (by omega)
    have w6 := (hwP.2 m hm).1.2.2.2.2.2.2
    rcases ixc a3 (nd P m).2.2.2.2.2.2 (by omega) with ⟨c, hc, rfl⟩ | hx
    · refine p_col hPc hwP hm hc ⟨fun z => absurd z (by decide), fun _ => ⟨fun ha2 => ?_, fun ha2 => Or.inl ⟨rfl, hV1, hV2, hV3, ?_⟩⟩⟩
      · have hn2 : ¬ a2 < 0 := Int32.not_lt.2 ha2
        rw [c4]
        refine p_isPossible c1 hwT hPc hwP c3 (by omega) hm hbu (fun I2 hF hCa hO h27 => ?_)
        have hL2 : Lc i (T, P, bu, Kk, Vv) (T, P, bu, Kk, Vv) S I2 k n := h.lc hi h.2.1 (hRc.ps hF hCa ch0).up (fun b hb => hF b (by omega))
        obtain ⟨t2, p2, b2, -, -⟩ := hL2.2.2.2.2.1
        cases hps : psb T P m bu
        · refine ⟨fun z => absurd rfl z, fun _ => Or.inr ⟨rfl, hV1, hV2, hV3, ?_⟩⟩
          refine m_isNodeColumn p2 hwP hm hc ⟨fun z => absurd z (by decide), fun _ => ⟨fun z => absurd z hn2, fun _ => ?_⟩⟩
          refine m_workJ t2 hwT p2 hwP hm b2 hbu (fun I3 J3 hF3 hJ3 hO3 => ?_)
          rw [hps]
          exact ⟨fun z => absurd rfl z, fun _ => m_goesWell_n (by decide) ⟨fun _ => m_end hK hL2 (Fm.of 2 hF3).1 (Fm.of 2 hF3).2 (q_u2_s _ _ _ _) (fun z => absurd z (by decide)), fun z => absurd rfl z⟩⟩
        · obtain ⟨⟨L, eL⟩, hST⟩ := psb_t hps
          have hH := (hO.s eL).1
          have e25 : I2 25 m = nI L.length := hH.1
          have l200 : L.length ≤ 200 := hH.2.1
          refine ⟨fun _ => p_countOf (by omega) ?_, fun z => absurd z (by decide)⟩
          rw [e25]
          refine ⟨fun z => ?_, fun z => Or.inl ⟨rfl, hV1, hV2, hV3, ?_⟩⟩
          · obtain ⟨r, hr, rfl⟩ : ∃ r, r < L.length ∧ a2 = nI r := by
              rcases ixc a2 L.length (by omega) with y | y | y
              · exact y
              · exact absurd y hn2
              · exact absurd z (Int32.not_lt.2 y)
            refine p_valueAt (by omega) hH hr hc w6 ⟨by simp (disch := omega) only [fa_lit, nI_ltI, nI_leI, nI_eq, nI_add, pk_mul, nI_clamp, vp_in_nI, l_uk, l_n1, l_n1e, l_n1e2, l_n1l, l_n1l2, l_n1l3, not_true_eq_false, not_false_eq_true, true_implies, false_implies, true_and, and_true, and_self, forall_eq, bI_t, bI_f, Bool.false_eq_true, or_true, true_or, or_false, false_or, s1_ltx, if_true, if_false, Nat.add_zero, Nat.zero_add,  d_leF, d_leT, d_ltF, d_ltT, d_eqF, d_eqT], fun J4 e4 => ⟨hV1, hV2, hV3, ?_⟩⟩
            refine m_isNodeColumn p2 hwP hm hc ⟨fun z => absurd z (by decide), fun _ => ⟨fun z => absurd z hn2, fun _ => ?_⟩⟩
            refine m_workJ t2 hwT p2 hwP hm b2 hbu (fun I3 J3 hF3 hJ3 hO3 => ?_)
            obtain ⟨L3, eL3, hH3, -⟩ := hO3 hps
            cases eL.symm.trans eL3
            rw [hps]
            refine ⟨fun _ => ⟨hv, fun y => ?_, fun _ => m_goesWell_0 ⟨fun y => absurd y (by decide), fun _ => ?_⟩⟩, fun y => absurd y (by decide)⟩
            · rw [ec, hH3.1, nI_leI (by omega) (by omega)] at y
              omega
            · have hH4 : Hm (q_u2 I3 51 0 0) m L (nd P m).2.2.2.2.2.2 := ⟨by rw [nr_u2 (by omega)]; exact hH3.1, by rw [nr_u2 (show (66 : Nat) ≠ 51 by omega)]; exact hH3.2⟩
              refine m_cellOf (by omega) hH4 hr (by omega) hc w6 ?_
              refine m_end hK hL2 (Fm.of 0 hF3).1 (Fm.of 0 hF3).2 (q_u2_s _ _ _ _) (fun _ => ?_)
              rw [hJ3 79 (by omega), e4]
              exact q_u2_s _ _ _ _
          · refine m_isNodeColumn p2 hwP hm hc ⟨fun z => absurd z (by decide), fun _ => ⟨fun z => absurd z hn2, fun _ => ?_⟩⟩
            refine m_workJ t2 hwT p2 hwP hm b2 hbu (fun I3 J3 hF3 hJ3 hO3 => ?_)
            obtain ⟨L3, eL3, hH3, -⟩ := hO3 hps
            cases eL.symm.trans eL3
            rw [hps]
            refine ⟨fun _ => ⟨hv, fun y => m_goesWell_n (by decide) ⟨fun _ => m_end hK hL2 (Fm.of 1 hF3).1 (Fm.of 1 hF3).2 (q_u2_s _ _ _ _) (fun z => absurd z (by decide)), fun z => absurd rfl z⟩, fun y => ?_⟩, fun y => absurd y (by decide)⟩
            rw [ec, hH3.1] at y
            exact absurd (Int32.not_lt.1 z) y
      · have hn2 : a2 < 0 := Int32.not_le.1 ha2
        exact m_isNodeColumn hPm hwP hm hc ⟨fun z => absurd z (by decide), fun _ => ⟨fun _ => m_goesWell_n (by decide) ⟨fun _ => m_no hK hL (by decide), fun z => absurd rfl z⟩, fun z => absurd hn2 z⟩⟩
    · refine p_col_f hPc hwP hm hx ⟨fun _ => Or.inl ⟨rfl, hV1, hV2, hV3, ?_⟩, fun z => absurd rfl z⟩
      exact m_isNodeColumn_f2 hPm hwP hm hx ⟨fun _ => m_goesWell_n (by decide) ⟨fun _ => m_no hK hL (by decide), fun z => absurd rfl z⟩, fun z => absurd rfl z⟩
  · refine p_col_f1 hPc hx ⟨fun _ => Or.inl ⟨rfl, hV1, hV2, hV3, ?_⟩, fun z => absurd rfl z⟩
    exact m_isNodeColumn_f1 hPm hwP hx ⟨fun _ => m_goesWell_n (by decide) ⟨fun _ => m_no hK hL (by decide), fun z => absurd rfl z⟩, fun z => absurd rfl z⟩
theorem L_9 {X : QX} (hl : X.2.1.2.1 ≤ 3072) (hi6 : 6 * i + 6 ≤ X.2.1.2.1) (hK : Kw9 K i) (h : LR i Z S I k n) : wL_c9 X K post (nI (6 * i)) S I J k n := by
  have hv : ∀ j : Nat, j < 6 → vp_in (nI (6 * i) + nI j) X.2.1.2.1 := fun j hj => by simp (disch := omega) only [fa_lit, nI_ltI, nI_leI, nI_eq, nI_add, pk_mul, nI_clamp, vp_in_nI, l_uk, l_n1, l_n1e, l_n1e2, l_n1l, l_n1l2, l_n1l3, not_true_eq_false, not_false_eq_true, true_implies, false_implies, true_and, and_true, and_self, forall_eq, bI_t, bI_f, Bool.false_eq_true, or_true, true_or, or_false, false_or, s1_ltx, if_true, if_false, Nat.add_zero, Nat.zero_add,  d_leF, d_leT, d_ltF, d_ltT, d_eqF, d_eqT]
  have hkn := h.kn
  exact ⟨hv 1 (by omega), hv 2 (by omega), hv 3 (by omega), hkn.1, hkn.2, b_cell ⟨hv 1 (by omega), hv 2 (by omega), hv 3 (by omega)⟩ hK h (by omega)⟩
end LC
