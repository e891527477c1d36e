/-! pure: the law's calls: rewrite -/
section LC
theorem ev_x {T : QT} {P P2 : List Nd} (hw : Pw T P) (hx : XP P P2) : ∀ (f n : Nat), n < P.length → ev T P2 f n = ev T P f n
  | 0, n, _ => rfl
  | f + 1, n, hn => by
    obtain ⟨ha, hb⟩ := (hw.2 n hn).ab
    have eB : nd P2 ((nd P n).2.2.1 - 1) = nd P ((nd P n).2.2.1 - 1) := hx.g (by
      by_cases e : (nd P n).2.2.1 = 0
      · omega
      · have := hb e; omega)
    have e1 : (if (nd P n).1 = 0 then some [] else ev T P2 f (nd P n).2.1) = (if (nd P n).1 = 0 then some [] else ev T P f (nd P n).2.1) := by
      by_cases e : (nd P n).1 = 0
      · rw [if_pos e, if_pos e]
      · rw [if_neg e, if_neg e]
        have := ha e
        exact ev_x hw hx f _ (by omega)
    have e2 : (if (nd P n).2.2.1 = 0 then some [] else ev T P2 f ((nd P n).2.2.1 - 1)) = (if (nd P n).2.2.1 = 0 then some [] else ev T P f ((nd P n).2.2.1 - 1)) := by
      by_cases e : (nd P n).2.2.1 = 0
      · rw [if_pos e, if_pos e]
      · rw [if_neg e, if_neg e]
        have := hb e
        exact ev_x hw hx f _ (by omega)
    rw [ev, ev, hx.g hn, eB, e1, e2]
theorem EV_x {T : QT} {P P2 : List Nd} (hw : Pw T P) (hx : XP P P2) {n : Nat} (hn : n < P.length) : EV T P2 n = EV T P n := ev_x hw hx _ n hn
theorem st_x {T : QT} {P P2 : List Nd} (hw : Pw T P) (hx : XP P P2) : ∀ (f n : Nat), n < P.length → st T P2 f n = st T P f n
  | 0, n, _ => rfl
  | f + 1, n, hn => by
    obtain ⟨ha, hb⟩ := (hw.2 n hn).ab
    have e1 : (if (nd P n).1 = 0 then 0 else st T P2 f (nd P n).2.1) = (if (nd P n).1 = 0 then 0 else st T P f (nd P n).2.1) := by
      by_cases e : (nd P n).1 = 0
      · rw [if_pos e, if_pos e]
      · rw [if_neg e, if_neg e]
        have := ha e
        exact st_x hw hx f _ (by omega)
    have e2 : (if (nd P n).2.2.1 = 0 then 0 else st T P2 f ((nd P n).2.2.1 - 1)) = (if (nd P n).2.2.1 = 0 then 0 else st T P f ((nd P n).2.2.1 - 1)) := by
      by_cases e : (nd P n).2.2.1 = 0
      · rw [if_pos e, if_pos e]
      · rw [if_neg e, if_neg e]
        have := hb e
        exact st_x hw hx f _ (by omega)
    rw [st, st, hx.g hn, EV_x hw hx hn, e1, e2]
theorem OKc_x {I : QI} {T : QT} {P P2 : List Nd} (hw : Pw T P) (hx : XP P P2) {n : Nat} (hn : n < P.length) (h : OKc I T P n) : OKc I T P2 n := by
  have e1 := EV_x (n := n) hw hx hn
  have e2 : ST T P2 n = ST T P n := st_x hw hx _ n hn
  cases e : EV T P n with
  | none => exact OKc.mn (e1.trans e) (h.n e)
  | some L => exact OKc.ms (e1.trans e) (by rw [hx.g hn]; exact (h.s e).1) (by rw [e2]; exact (h.s e).2)
theorem Ca_x {I : QI} {T : QT} {P P2 : List Nd} {ch : Nat} (hw : Pw T P) (hx : XP P P2) (h : Ca I T P ch) : Ca I T P2 ch := by
  refine ⟨h.1, fun m hm => ?_⟩
  obtain ⟨a, b⟩ := h.2 m hm
  refine ⟨a, fun z => ?_⟩
  obtain ⟨c, d⟩ := b z
  exact ⟨Nat.lt_of_lt_of_le c hx.le, OKc_x hw hx c d⟩
variable {K : Int32 → QS → QI → QJ → Nat → Nat → Prop} {post : Int32 → Prop} {i k n : Nat} {Z : Zs} {S : QS} {I : QI} {J : QJ}
theorem b_rewrite {V : Prop} {a : Int32} (hV : V) (hK : Kw9 K i) (h : LR i Z S I k n) (hi : i < 512) : wL_rewrite a I J (fun r1 I2 J3 => V ∧ (∃ c6 s6 : Nat, k + 1 + c6 ≤ 601024 ∧ n + 6 + s6 ≤ 7293034 ∧ wX8_rewrite a S I2 c6 s6 (fun r4 S5 I6 => fin9 K post (nI (6 * i)) S5 I6 J3 (k + 1 + c6) (n + 6 + s6) r1 r4))) := by
  have hL := h.nc hi
  have hkn := h.kn
  obtain ⟨T, P, bu, Kk, Vv⟩ := Z
  obtain ⟨hwT, hwP, hd, hw4⟩ := h.2.1
  obtain ⟨c1, hPc, ⟨ch, ch0, c3⟩, c4, c5, c6⟩ := h.2.2.1
  obtain ⟨m1, hPm, m3, m4, m5⟩ := h.2.2.2.1
  replace hwT : Tw T := hwT
  replace hwP : Pw T P := hwP
  replace hd : Pd P := hd
  replace hPc : Pc I P := hPc
  replace hPm : Pm I P := hPm
  have h24 := hwP.1
  unfold wL_rewrite wX7_rewrite
  rcases ixc a P.length (by omega) with ⟨m, hm, rfl⟩ | hx
  · refine p_has hPc hwP hm ⟨fun _ => ?_, fun z => absurd z (by decide)⟩
    obtain ⟨DN, DL, hC, hroot⟩ := cl_all hwP
    obtain ⟨-, -, -, -, u, v, hA, hk, hn⟩ := h
    obtain ⟨⟨C, PS, hAT⟩, hu, hv⟩ := hA
    obtain ⟨u2, v2, hu2, hv2, pu, pv, hm8⟩ := m_rewrite (DN := DN) (DL := DL) hwT hwP hd hC hm (hroot m hm) hu hv
    have ul : u2 ≤ 16384 := by obtain ⟨x, hx, ex⟩ := pu; rw [ex]; exact Nat.pow_le_pow_right (by decide) hx
    have vl : v2 ≤ 4096 := by obtain ⟨x, hx, ex⟩ := pv; rw [ex]; exact Nat.pow_le_pow_right (by decide) hx
    have go : ∀ (I2 : QI) (J3 : QJ) (r1 : Int32), (∀ b, b < 15 ∨ (23 ≤ b ∧ b < 30) ∨ 37 ≤ b → I2 b = I b) → Pc I2 (rwo P m).2.2 → r1 = (rwo P m).2.1 → (r1 = 0 → J3 79 0 = (rwo P m).1.toInt64) → XP P (rwo P m).2.2 → Pw T (rwo P m).2.2 → Pd (rwo P m).2.2 → V ∧ (∃ c6 s6 : Nat, k + 1 + c6 ≤ 601024 ∧ n + 6 + s6 ≤ 7293034 ∧ wX8_rewrite (nI m) S I2 c6 s6 (fun r4 S5 I6 => fin9 K post (nI (6 * i)) S5 I6 J3 (k + 1 + c6) (n + 6 + s6) r1 r4)) := by
      intro I2 J3 r1 hF hP2 e1 eJ hXP hwP2 hdP2
      refine ⟨hV, 2 * (u2 - u) + 3 * (v2 - v), 256 * (u2 - u) + 384 * (v2 - v), by omega, by omega, ?_⟩
      have eb : ∀ b, 51 ≤ b → I2 b = I b := fun b hb => hF b (by omega)
      refine hm8 S I2 _ _ _ C PS (m1.cg (by rw [eb 51 (by omega)]) (fun b h1 _ => eb b (by omega))) (hAT.cg (by rw [eb 51 (by omega)]) (by rw [eb 51 (by omega)]) (fun b hb => eb b (by omega))) (hPm.cg (by rw [eb 51 (by omega)]) (fun b h1 _ => eb b (by omega))) (Nat.le_refl _) (Nat.le_refl _) (fun C2 PS2 S2 I6 hA6 hF6 hP6 h06 => ?_)
      have e6 : ∀ b, b < 51 → I6 b = I2 b := fun b hb => hF6.1 b (by omega)
      have j6 : ∀ j, j ≠ 0 → j ≠ 5 → j ≠ 24 → j ≠ 27 → j ≠ 32 → I6 51 j = I 51 j := fun j x0 x1 x2 x3 x4 => by rw [hF6.2 j x0 x1 x2 x3 x4, eb 51 (by omega)]
      refine m_fin9 hi (h06.trans e1.symm) eJ (hK (T, (rwo P m).2.2, bu, Kk, Vv) S2 I6 J3 _ _ ⟨by omega, ⟨hwT, hwP2, hdP2, hw4⟩, ?_, ⟨m1.cg (j6 1 (by omega) (by omega) (by omega) (by omega) (by omega)) (fun b h1 h2 => by rw [hF6.1 b (by omega), eb b (by omega)]), hP6, (j6 13 (by omega) (by omega) (by omega) (by omega) (by omega)).trans m3, m4.cg (j6 14 (by omega) (by omega) (by omega) (by omega) (by omega)) (by rw [hF6.1 62 (by omega), eb 62 (by omega)]), m5.cg (j6 16 (by omega) (by omega) (by omega) (by omega) (by omega)) (by rw [hF6.1 63 (by omega), eb 63 (by omega)])⟩, u2, v2, ⟨⟨C2, PS2, hA6⟩, pu, pv⟩, by omega, by omega⟩)
      refine ⟨c1.cg (fun b hb => by rw [e6 b (by omega), hF b (by omega)]), hP2.cg (fun b _ hb => e6 b (by omega)), ⟨ch, by omega, ?_⟩, by rw [e6 0 (by omega), hF 0 (by omega)]; exact c4, c5.cg (fun b h1 _ => by rw [e6 b (by omega), hF b (by omega)]), c6.cg (fun b h1 _ => by rw [e6 b (by omega), hF b (by omega)])⟩
      have c3' : Ca I6 T P ch := c3.cg hwP (by rw [e6 1 (by omega), hF 1 (by omega)]) (fun b h1 _ => by rw [e6 b (by omega), hF b (by omega)])
      exact Ca_x hwP hXP c3'
    refine p_rewritten c1 hwT hPc hwP hd hm (fun r P2 I2 er hP2 hF => ?_) (fun I2 er hP2 hF => ?_)
    · have eo : rwo P m = (nI r, nI 0, P2) := by unfold rwo; rw [er]
      obtain ⟨w2, d2, x2, r2, -⟩ := rw_ok hwP hd hm (fun e he => by cases he) er
      have r24 := w2.1
      refine ⟨fun _ => ⟨by simp (disch := omega) only [fa_lit, nI_ltI, nI_leI, nI_eq, nI_add, pk_mul, nI_clamp, vp_in_nI, l_uk, l_n1, l_n1e, l_n1e2, l_n1l, l_n1l2, l_n1l3, not_true_eq_false, not_false_eq_true, true_implies, false_implies, true_and, and_true, and_self, forall_eq, bI_t, bI_f, Bool.false_eq_true, or_true, true_or, or_false, false_or, s1_ltx, if_true, if_false, Nat.add_zero, Nat.zero_add,  d_leF, d_leT, d_ltF, d_ltT, d_eqF, d_eqT], fun J4 e4 => ?_⟩, fun z => absurd z (by show ¬ nI r = N1; simp (disch := omega) only [fa_lit, nI_ltI, nI_leI, nI_eq, nI_add, pk_mul, nI_clamp, vp_in_nI, l_uk, l_n1, l_n1e, l_n1e2, l_n1l, l_n1l2, l_n1l3, not_true_eq_false, not_false_eq_true, true_implies, false_implies, true_and, and_true, and_self, forall_eq, bI_t, bI_f, Bool.false_eq_true, or_true, true_or, or_false, false_or, s1_ltx, if_true, if_false, Nat.add_zero, Nat.zero_add,  d_leF, d_leT, d_ltF, d_ltT, d_eqF, d_eqT])⟩
      refine go I2 J4 0 hF (by rw [eo]; exact hP2) (by rw [eo]; rfl) (fun _ => ?_) (by rw [eo]; exact x2) (by rw [eo]; exact w2) (by rw [eo]; exact d2)
      rw [e4, eo]
      exact q_u2_s _ _ _ _
    · have eo : rwo P m = (nI 0, nI 2, P) := by unfold rwo; rw [er]
      refine ⟨fun z => absurd rfl z, fun _ => Or.inr ⟨rfl, ?_⟩⟩
      exact go I2 J 2 hF (by rw [eo]; exact hP2) (by rw [eo]; rfl) (fun z => absurd z (by decide)) (by rw [eo]; exact XP.rf _) (by rw [eo]; exact hwP) (by rw [eo]; exact hd)
  · refine p_has_f hPc hx ⟨fun z => absurd rfl z, fun _ => Or.inl ⟨rfl, hV, 0, 0, hkn.1, hkn.2, ?_⟩⟩
    exact m_rewrite_f hPm hwP hx (m_no hK hL (by decide))
theorem L_13 {X : QX} (hl : X.2.1.2.1 ≤ 3072) (hi6 : 6 * i + 6 ≤ X.2.1.2.1) (hK : Kw9 K i) (h : LR i Z S I k n) : wL_c13 X K post (nI (6 * i)) S I J k n := by
  have hv : ∀ j : Nat, j < 6 → vp_in (nI (6 * i) + nI j) X.2.1.2.1 := fun j hj => by simp (disch := omega) only [fa_lit, nI_ltI, nI_leI, nI_eq, nI_add, pk_mul, nI_clamp, vp_in_nI, l_uk, l_n1, l_n1e, l_n1e2, l_n1l, l_n1l2, l_n1l3, not_true_eq_false, not_false_eq_true, true_implies, false_implies, true_and, and_true, and_self, forall_eq, bI_t, bI_f, Bool.false_eq_true, or_true, true_or, or_false, false_or, s1_ltx, if_true, if_false, Nat.add_zero, Nat.zero_add,  d_leF, d_leT, d_ltF, d_ltT, d_eqF, d_eqT]
  have hkn := h.kn
  exact ⟨hv 1 (by omega), hkn.1, hkn.2, b_rewrite (hv 1 (by omega)) hK h (by omega)⟩
end LC
