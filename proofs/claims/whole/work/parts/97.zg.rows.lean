/-! pure: the law's calls: rows, steps -/
section LC
variable {K : Int32 → QS → QI → QJ → Nat → Nat → Prop} {post : Int32 → Prop} {i k n : Nat} {Z : Zs} {S : QS} {I : QI} {J : QJ}
theorem Rc.ps {I I2 : QI} {Z : Zs} {i ch : Nat} (h : Rc I Z i) (hF : ∀ b, b < 24 ∨ 30 ≤ b → I2 b = I b) (hC : Ca I2 Z.1 Z.2.1 ch) (hch : ch ≤ i + 1) : Rc I2 Z i := by
  obtain ⟨a, b, -, d, f, g⟩ := h
  exact ⟨a.cg (fun b hb => hF b (by omega)), b.cg (fun b _ hb => hF b (by omega)), ⟨ch, hch, hC⟩, by rw [hF 0 (by omega)]; exact d, f.cg (fun b hb _ => hF b (by omega)), g.cg (fun b hb _ => hF b (by omega))⟩
/-- the end of a call that leaves the state -/
theorem m_end {x cd : Int32} {I5 : QI} {J5 : QJ} (hK : Kw9 K i) (h : Lc i Z Z S I k n) (e : ∀ b, b < 51 → I5 b = I b) (hF : Fm I I5) (h0 : I5 51 0 = cd) (hJ : cd = 0 → J5 79 0 = x.toInt64) : fin9 K post (nI (6 * i)) S I5 J5 (k + 1) (n + 6) cd x := m_fin9 h.1 h0 hJ (hK Z S _ J5 _ _ (h.fm e hF))
theorem Fm.of {I I3 : QI} (x : Int32) (h : ∀ b, b ≠ 64 → b ≠ 66 → b ≠ 67 → b ≠ 68 → I3 b = I b) : (∀ b, b < 51 → q_u2 I3 51 0 x b = I b) ∧ Fm I (q_u2 I3 51 0 x) := by
  have e : ∀ b, b ≠ 51 → b ≠ 64 → b ≠ 66 → b ≠ 67 → b ≠ 68 → q_u2 I3 51 0 x b = I b := fun b h1 h2 h3 h4 h5 => by rw [nr_u2 h1]; exact h b h2 h3 h4 h5
  have j : ∀ j, j ≠ 0 → q_u2 I3 51 0 x 51 j = I 51 j := fun j hj => by rw [q_u2_j _ _ _ hj, h 51 (by omega) (by omega) (by omega) (by omega)]
  exact ⟨fun b hb => e b (by omega) (by omega) (by omega) (by omega) (by omega), fun b hb => e b (by omega) (by omega) (by omega) (by omega) (by omega), j 1 (by omega), j 5 (by omega), j 13 (by omega), j 14 (by omega), j 16 (by omega), j 24 (by omega), j 27 (by omega)⟩
theorem psb_t {T : QT} {P : List Nd} {m bu : Nat} (h : psb T P m bu = true) : (∃ L, EV T P m = some L) ∧ ST T P m ≤ bu := by
  unfold psb at h
  cases e : EV T P m with
  | none => rw [e] at h; cases h
  | some L =>
    rw [e] at h
    exact ⟨⟨L, rfl⟩, of_decide_eq_true h⟩
theorem b_rows {V : Prop} {a : Int32} (hV : V) (hK : Kw9 K i) (h : LR i Z S I k n) (hi : i < 512) : wL_rows a I J (fun r1 I2 J3 => V ∧ wX8_rows a I2 J3 (fun r6 I4 J5 => fin9 K post (nI (6 * i)) S I4 J5 (k + 1) (n + 6) r1 r6)) := by
  have hL := h.nc hi
  obtain ⟨T, P, bu, Kk, Vv⟩ := Z
  obtain ⟨hwT, hwP, hd, hbu, hw5⟩ := h.2.1
  have hRc := h.2.2.1
  obtain ⟨c1, hPc, ⟨ch, ch0, c3⟩, c4, c5, c6⟩ := h.2.2.1
  obtain ⟨m1, hPm, m3, m4, m5⟩ := h.2.2.2.1
  replace hwP : Pw T P := hwP
  replace hPc : Pc I P := hPc
  replace hPm : Pm I P := hPm
  replace c4 : I 0 6 = nI bu := c4
  have h24 := hwP.1
  unfold wL_rows wX7_rows
  rcases ixc a P.length (by omega) with ⟨m, hm, rfl⟩ | hx
  · have hv : vp_in (nI m) 24 := by simp (disch := omega) only [fa_lit, nI_ltI, nI_leI, nI_eq, nI_add, pk_mul, nI_clamp, vp_in_nI, l_uk, l_n1, l_n1e, l_n1e2, l_n1l, l_n1l2, l_n1l3, not_true_eq_false, not_false_eq_true, true_implies, false_implies, true_and, and_true, and_self, forall_eq, bI_t, bI_f, Bool.false_eq_true, or_true, true_or, or_false, false_or, s1_ltx, if_true, if_false, Nat.add_zero, Nat.zero_add,  d_leF, d_leT, d_ltF, d_ltT, d_eqF, d_eqT]
    have ec : (nI m).toNatClampNeg = m := nI_clamp (by omega)
    rw [c4]
    refine p_has hPc hwP hm ⟨fun _ => ?_, fun z => absurd z (by decide)⟩
    refine p_isPossible c1 hwT hPc hwP c3 (by omega) hm hbu (fun I2 hF hCa hO h27 => ?_)
    have hL2 : Lc i (T, P, bu, Kk, Vv) (T, P, bu, Kk, Vv) S I2 k n := h.lc hi h.2.1 (hRc.ps hF hCa ch0).up (fun b hb => hF b (by omega))
    obtain ⟨t2, p2, b2, -, -⟩ := hL2.2.2.2.2.1
    cases hps : psb T P m bu
    · refine ⟨fun z => absurd rfl z, fun _ => Or.inr ⟨rfl, hV, ?_⟩⟩
      refine m_isNode p2 hwP hm ⟨fun _ => ?_, fun z => absurd z (by decide)⟩
      refine m_workJ t2 hwT p2 hwP hm b2 hbu (fun I3 J3 hF3 hJ3 hO3 => ?_)
      rw [hps]
      exact ⟨fun _ => m_goesWell_n (by decide) ⟨fun _ => m_end hK hL2 (Fm.of 2 hF3).1 (Fm.of 2 hF3).2 (q_u2_s _ _ _ _) (fun z => absurd z (by decide)), fun z => absurd rfl z⟩, fun z => absurd rfl z⟩
    · obtain ⟨⟨L, eL⟩, hST⟩ := psb_t hps
      have e25 : I2 25 m = nI L.length := (hO.s eL).1.1
      refine ⟨fun _ => p_countOf (by omega) ⟨by simp (disch := omega) only [fa_lit, nI_ltI, nI_leI, nI_eq, nI_add, pk_mul, nI_clamp, vp_in_nI, l_uk, l_n1, l_n1e, l_n1e2, l_n1l, l_n1l2, l_n1l3, not_true_eq_false, not_false_eq_true, true_implies, false_implies, true_and, and_true, and_self, forall_eq, bI_t, bI_f, Bool.false_eq_true, or_true, true_or, or_false, false_or, s1_ltx, if_true, if_false, Nat.add_zero, Nat.zero_add,  d_leF, d_leT, d_ltF, d_ltT, d_eqF, d_eqT], fun J4 e4 => ⟨hV, ?_⟩⟩, fun z => absurd z (by decide)⟩
      refine m_isNode p2 hwP hm ⟨fun _ => ?_, fun z => absurd z (by decide)⟩
      refine m_workJ t2 hwT p2 hwP hm b2 hbu (fun I3 J3 hF3 hJ3 hO3 => ?_)
      obtain ⟨L3, eL3, hH3, hJ65⟩ := hO3 hps
      have e64 : q_u2 I3 51 0 0 64 m = nI L.length := by
        rw [nr_u2 (by omega), hH3.1]
        cases eL.symm.trans eL3
        rfl
      rw [hps]
      refine ⟨fun z => absurd z (by decide), fun _ => m_goesWell_0 ⟨fun z => absurd z (by decide), fun _ => ⟨hv, ?_⟩⟩⟩
      rw [ec, e64]
      refine m_end hK hL2 (Fm.of 0 hF3).1 (Fm.of 0 hF3).2 (q_u2_s _ _ _ _) (fun _ => ?_)
      rw [hJ3 79 (by omega), e4, e25]
      exact q_u2_s _ _ _ _
  · refine p_has_f hPc hx ⟨fun z => absurd rfl z, fun _ => Or.inl ⟨rfl, hV, ?_⟩⟩
    exact m_isNode_f hPm hwP hx ⟨fun z => absurd rfl z, fun _ => m_goesWell_n (by decide) ⟨fun _ => m_no hK hL (by decide), fun z => absurd rfl z⟩⟩
theorem b_steps {V : Prop} {a : Int32} (hV : V) (hK : Kw9 K i) (h : LR i Z S I k n) (hi : i < 512) : wL_steps a I J (fun r1 I2 J3 => V ∧ wX8_steps a I2 J3 (fun r6 I4 J5 => fin9 K post (nI (6 * i)) S I4 J5 (k + 1) (n + 6) r1 r6)) := by
  have hL := h.nc hi
  obtain ⟨T, P, bu, Kk, Vv⟩ := Z
  obtain ⟨hwT, hwP, hd, hbu, hw5⟩ := h.2.1
  have hRc := h.2.2.1
  obtain ⟨c1, hPc, ⟨ch, ch0, c3⟩, c4, c5, c6⟩ := h.2.2.1
  obtain ⟨m1, hPm, m3, m4, m5⟩ := h.2.2.2.1
  replace hwP : Pw T P := hwP
  replace hPc : Pc I P := hPc
  replace hPm : Pm I P := hPm
  replace c4 : I 0 6 = nI bu := c4
  have h24 := hwP.1
  unfold wL_steps wX7_steps
  rcases ixc a P.length (by omega) with ⟨m, hm, rfl⟩ | hx
  · have hv : vp_in (nI m) 24 := by simp (disch := omega) only [fa_lit, nI_ltI, nI_leI, nI_eq, nI_add, pk_mul, nI_clamp, vp_in_nI, l_uk, l_n1, l_n1e, l_n1e2, l_n1l, l_n1l2, l_n1l3, not_true_eq_false, not_false_eq_true, true_implies, false_implies, true_and, and_true, and_self, forall_eq, bI_t, bI_f, Bool.false_eq_true, or_true, true_or, or_false, false_or, s1_ltx, if_true, if_false, Nat.add_zero, Nat.zero_add,  d_leF, d_leT, d_ltF, d_ltT, d_eqF, d_eqT]
    have ec : (nI m).toNatClampNeg = m := nI_clamp (by omega)
    rw [c4]
    refine p_has hPc hwP hm ⟨fun _ => ?_, fun z => absurd z (by decide)⟩
    refine p_isPossible c1 hwT hPc hwP c3 (by omega) hm hbu (fun I2 hF hCa hO h27 => ?_)
    have hL2 : Lc i (T, P, bu, Kk, Vv) (T, P, bu, Kk, Vv) S I2 k n := h.lc hi h.2.1 (hRc.ps hF hCa ch0).up (fun b hb => hF b (by omega))
    obtain ⟨t2, p2, b2, -, -⟩ := hL2.2.2.2.2.1
    cases hps : psb T P m bu
    · refine ⟨fun z => absurd rfl z, fun _ => Or.inr ⟨rfl, hV, ?_⟩⟩
      refine m_isNode p2 hwP hm ⟨fun _ => ?_, fun z => absurd z (by decide)⟩
      refine m_workJ t2 hwT p2 hwP hm b2 hbu (fun I3 J3 hF3 hJ3 hO3 => ?_)
      rw [hps]
      exact ⟨fun _ => m_goesWell_n (by decide) ⟨fun _ => m_end hK hL2 (Fm.of 2 hF3).1 (Fm.of 2 hF3).2 (q_u2_s _ _ _ _) (fun z => absurd z (by decide)), fun z => absurd rfl z⟩, fun z => absurd rfl z⟩
    · obtain ⟨⟨L, eL⟩, hST⟩ := psb_t hps
      replace hbu : bu ≤ 100000 := hbu
      have e26 : I2 26 m = nI (ST T P m) := by
        have q : min (ST T P m) 100001 = ST T P m := by omega
        exact ((hO.s eL).2).trans (congrArg nI q)
      refine ⟨fun _ => p_stepsOf (by omega) ⟨by simp (disch := omega) only [fa_lit, nI_ltI, nI_leI, nI_eq, nI_add, pk_mul, nI_clamp, vp_in_nI, l_uk, l_n1, l_n1e, l_n1e2, l_n1l, l_n1l2, l_n1l3, not_true_eq_false, not_false_eq_true, true_implies, false_implies, true_and, and_true, and_self, forall_eq, bI_t, bI_f, Bool.false_eq_true, or_true, true_or, or_false, false_or, s1_ltx, if_true, if_false, Nat.add_zero, Nat.zero_add,  d_leF, d_leT, d_ltF, d_ltT, d_eqF, d_eqT], fun J4 e4 => ⟨hV, ?_⟩⟩, fun z => absurd z (by decide)⟩
      refine m_isNode p2 hwP hm ⟨fun _ => ?_, fun z => absurd z (by decide)⟩
      refine m_workJ t2 hwT p2 hwP hm b2 hbu (fun I3 J3 hF3 hJ3 hO3 => ?_)
      obtain ⟨L3, eL3, hH3, hJ65⟩ := hO3 hps
      rw [hps]
      refine ⟨fun z => absurd z (by decide), fun _ => m_goesWell_0 ⟨fun z => absurd z (by decide), fun _ => ⟨hv, ?_⟩⟩⟩
      have hJ65 : J3 65 m = Int64.ofNat (ST T P m) := hJ65
      rw [ec, hJ65, jN_32 (by omega)]
      refine m_end hK hL2 (Fm.of 0 hF3).1 (Fm.of 0 hF3).2 (q_u2_s _ _ _ _) (fun _ => ?_)
      rw [hJ3 79 (by omega), e4, e26]
      exact q_u2_s _ _ _ _
  · refine p_has_f hPc hx ⟨fun z => absurd rfl z, fun _ => Or.inl ⟨rfl, hV, ?_⟩⟩
    exact m_isNode_f hPm hwP hx ⟨fun z => absurd rfl z, fun _ => m_goesWell_n (by decide) ⟨fun _ => m_no hK hL (by decide), fun z => absurd rfl z⟩⟩
theorem L_8 {X : QX} (hl : X.2.1.2.1 ≤ 3072) (hi6 : 6 * i + 6 ≤ X.2.1.2.1) (hK : Kw9 K i) (h : LR i Z S I k n) : wL_c8 X K post (nI (6 * i)) S I J k n := by
  have hv : ∀ j : Nat, j < 6 → vp_in (nI (6 * i) + nI j) X.2.1.2.1 := fun j hj => by simp (disch := omega) only [fa_lit, nI_ltI, nI_leI, nI_eq, nI_add, pk_mul, nI_clamp, vp_in_nI, l_uk, l_n1, l_n1e, l_n1e2, l_n1l, l_n1l2, l_n1l3, not_true_eq_false, not_false_eq_true, true_implies, false_implies, true_and, and_true, and_self, forall_eq, bI_t, bI_f, Bool.false_eq_true, or_true, true_or, or_false, false_or, s1_ltx, if_true, if_false, Nat.add_zero, Nat.zero_add,  d_leF, d_leT, d_ltF, d_ltT, d_eqF, d_eqT]
  have hkn := h.kn
  exact ⟨hv 1 (by omega), hkn.1, hkn.2, b_rows (hv 1 (by omega)) hK h (by omega)⟩
theorem L_11 {X : QX} (hl : X.2.1.2.1 ≤ 3072) (hi6 : 6 * i + 6 ≤ X.2.1.2.1) (hK : Kw9 K i) (h : LR i Z S I k n) : wL_c11 X K post (nI (6 * i)) S I J k n := by
  have hv : ∀ j : Nat, j < 6 → vp_in (nI (6 * i) + nI j) X.2.1.2.1 := fun j hj => by simp (disch := omega) only [fa_lit, nI_ltI, nI_leI, nI_eq, nI_add, pk_mul, nI_clamp, vp_in_nI, l_uk, l_n1, l_n1e, l_n1e2, l_n1l, l_n1l2, l_n1l3, not_true_eq_false, not_false_eq_true, true_implies, false_implies, true_and, and_true, and_self, forall_eq, bI_t, bI_f, Bool.false_eq_true, or_true, true_or, or_false, false_or, s1_ltx, if_true, if_false, Nat.add_zero, Nat.zero_add,  d_leF, d_leT, d_ltF, d_ltT, d_eqF, d_eqT]
  have hkn := h.kn
  exact ⟨hv 1 (by omega), hkn.1, hkn.2, b_steps (hv 1 (by omega)) hK h (by omega)⟩
end LC
