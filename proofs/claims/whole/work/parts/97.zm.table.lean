/-! pure: the law's calls: table -/
section LC
theorem nW_op {T : QT} {P : List Nd} {w m : Nat} {q : Nd} (h : nW T P m q) : nW (opT T w) P m q := by
  obtain ⟨a, b, c, d⟩ := h
  refine ⟨a, ?_, fun e => ⟨Nat.lt_succ_of_lt (c e).1, (c e).2⟩, d⟩
  rw [b]
  unfold wd
  by_cases e : q.1 = 0
  · rw [if_pos e, if_pos e]
    have := (c e).1
    show T.2.1 q.2.1 = if q.2.1 = T.1 then w else T.2.1 q.2.1
    rw [if_neg (by omega)]
  · rw [if_neg e, if_neg e]
theorem Pw_op {T : QT} {P : List Nd} {w : Nat} (h : Pw T P) : Pw (opT T w) P := ⟨h.1, fun m hm => nW_op (h.2 m hm)⟩
theorem q4_op {T : QT} {w : Nat} {q : Q4} (h : q4W T q) : q4W (opT T w) q := by
  obtain ⟨a, b, c, d⟩ := h
  refine ⟨Nat.lt_succ_of_lt a, Nat.lt_succ_of_lt b, ?_, ?_⟩
  · show _ < if q.1 = T.1 then w else T.2.1 q.1
    rw [if_neg (by omega)]
    exact c
  · show _ < if q.2.1 = T.1 then w else T.2.1 q.2.1
    rw [if_neg (by omega)]
    exact d
theorem Kw_op {T : QT} {V : List Q4} {w : Nat} (h : Kw T V) : Kw (opT T w) V := ⟨h.1, fun v hv => q4_op (h.2 v hv)⟩
theorem Vw_op {T : QT} {V : List Q4} {w : Nat} (h : Vw T V) : Vw (opT T w) V := ⟨h.1, fun v hv => q4_op (h.2 v hv)⟩
theorem flS_op {T : QT} {w a : Nat} (h : a < T.1) : ∀ i, flS (opT T w) a i = flS T a i
  | 0 => rfl
  | i + 1 => by
    have e : rowT (opT T w) a i = rowT T a i := by
      unfold rowT
      show (List.range (if a = T.1 then w else T.2.1 a)).map _ = _
      rw [if_neg (by omega)]
      rfl
    rw [flS, flS, flS_op h i, e]
theorem fil_op {T : QT} {P : List Nd} {m w : Nat} {q : Nd} (h : nW T P m q) (wb : Nat) (A B : List (List Int32)) : fil (opT T w) q wb A B = fil T q wb A B := by
  unfold fil
  by_cases e : q.1 = 0
  · rw [if_pos e, if_pos e]
    exact flS_op (h.2.2.1 e).1 _
  · rw [if_neg e, if_neg e]
theorem ev_op {T : QT} {P : List Nd} {w : Nat} (hw : Pw T P) : ∀ (f m : Nat), m < P.length → ev (opT T w) P f m = ev T P f m
  | 0, m, _ => rfl
  | f + 1, m, hm => by
    obtain ⟨ha, hb⟩ := (hw.2 m hm).ab
    have e1 : (if (nd P m).1 = 0 then some [] else ev (opT T w) P f (nd P m).2.1) = (if (nd P m).1 = 0 then some [] else ev T P f (nd P m).2.1) := by
      by_cases e : (nd P m).1 = 0
      · rw [if_pos e, if_pos e]
      · rw [if_neg e, if_neg e]
        have := ha e
        exact ev_op hw f _ (by omega)
    have e2 : (if (nd P m).2.2.1 = 0 then some [] else ev (opT T w) P f ((nd P m).2.2.1 - 1)) = (if (nd P m).2.2.1 = 0 then some [] else ev T P f ((nd P m).2.2.1 - 1)) := by
      by_cases e : (nd P m).2.2.1 = 0
      · rw [if_pos e, if_pos e]
      · rw [if_neg e, if_neg e]
        have := hb e
        exact ev_op hw f _ (by omega)
    rw [ev, ev, e1, e2]
    simp only [fil_op (hw.2 m hm)]
theorem EV_op {T : QT} {P : List Nd} {w : Nat} (hw : Pw T P) {m : Nat} (hm : m < P.length) : EV (opT T w) P m = EV T P m := ev_op hw _ m hm
theorem st_op {T : QT} {P : List Nd} {w : Nat} (hw : Pw T P) : ∀ (f m : Nat), m < P.length → st (opT T w) P f m = st T P f m
  | 0, m, _ => rfl
  | f + 1, m, hm => by
    obtain ⟨ha, hb⟩ := (hw.2 m hm).ab
    have e1 : (if (nd P m).1 = 0 then 0 else st (opT T w) P f (nd P m).2.1) = (if (nd P m).1 = 0 then 0 else st T P f (nd P m).2.1) := by
      by_cases e : (nd P m).1 = 0
      · rw [if_pos e, if_pos e]
      · rw [if_neg e, if_neg e]
        have := ha e
        exact st_op hw f _ (by omega)
    have e2 : (if (nd P m).2.2.1 = 0 then 0 else st (opT T w) P f ((nd P m).2.2.1 - 1)) = (if (nd P m).2.2.1 = 0 then 0 else st T P f ((nd P m).2.2.1 - 1)) := by
      by_cases e : (nd P m).2.2.1 = 0
      · rw [if_pos e, if_pos e]
      · rw [if_neg e, if_neg e]
        have := hb e
        exact st_op hw f _ (by omega)
    rw [st, st, EV_op hw hm, e1, e2]
theorem OKc_op {I : QI} {T : QT} {P : List Nd} {w : Nat} (hw : Pw T P) {m : Nat} (hm : m < P.length) (h : OKc I T P m) : OKc I (opT T w) P m := by
  have e1 := EV_op (w := w) hw hm
  have e2 : ST (opT T w) P m = ST T P m := st_op hw _ m hm
  cases e : EV T P m with
  | none => exact OKc.mn (e1.trans e) (h.n e)
  | some L => exact OKc.ms (e1.trans e) (h.s e).1 (by rw [e2]; exact (h.s e).2)
theorem Ca_op {I : QI} {T : QT} {P : List Nd} {w ch : Nat} (hw : Pw T P) (h : Ca I T P ch) : Ca I (opT T w) P ch := by
  refine ⟨h.1, fun m hm => ?_⟩
  obtain ⟨a, b⟩ := h.2 m hm
  refine ⟨a, fun z => ?_⟩
  obtain ⟨c, d⟩ := b z
  exact ⟨c, OKc_op hw c d⟩
variable {K : Int32 → QS → QI → QJ → Nat → Nat → Prop} {post : Int32 → Prop} {i k n : Nat} {Z : Zs} {S : QS} {I : QI} {J : QJ}
theorem b_table {V : Prop} {a : Int32} (hV : V) (hK : Kw9 K i) (h : LR i Z S I k n) (hi : i < 512) : wL_table a I J (fun r1 I2 J3 => V ∧ wX8_table a I2 (fun r5 I4 => fin9 K post (nI (6 * i)) S I4 J3 (k + 1) (n + 6) r1 r5)) := by
  have hL := h.nc hi
  obtain ⟨T, P, bu, Kk, Vv⟩ := Z
  have hw := h.2.1
  obtain ⟨hwT, hwP, hd, hbu, hwK, hwV⟩ := h.2.1
  obtain ⟨c1, c2, ⟨ch, c0, c3⟩, c4, c5, c6⟩ := h.2.2.1
  obtain ⟨m1, m2, m3, m4, m5⟩ := h.2.2.2.1
  replace hwT : Tw T := hwT
  replace hwP : Pw T P := hwP
  replace c1 : Tc I T := c1
  replace m1 : Tm I T := m1
  have t4 := hwT.1
  unfold wL_table wX7_table
  rcases ixs a (t := 2) (by omega) with ⟨w, w1, w3, rfl⟩ | hx
  · have w3 : w ≤ 3 := by have : w < 4 := w3; omega
    have inn : ∀ (I : QI) (Q : Int32 → Prop), Q 1 → wX8_in (nI w) 1 3 I Q := fun I Q hQ => by
      unfold wX8_in
      simp (disch := omega) only [fa_lit, nI_ltI, nI_leI, nI_eq, nI_add, pk_mul, nI_clamp, vp_in_nI, l_uk, l_n1, l_n1e, l_n1e2, l_n1l, l_n1l2, l_n1l3, not_true_eq_false, not_false_eq_true, true_implies, false_implies, true_and, and_true, and_self, forall_eq, bI_t, bI_f, Bool.false_eq_true, or_true, true_or, or_false, false_or, s1_ltx, if_true, if_false, Nat.add_zero, Nat.zero_add,  d_leF, d_leT, d_ltF, d_ltT, d_eqF, d_eqT]
      exact hQ
    refine ⟨fun z => ?_, fun _ => ⟨fun _ => ?_, fun z => absurd ?_ z⟩⟩
    · replace z : nI w < nI 1 := z
      rw [nI_ltI (by omega) (by omega)] at z
      omega
    · refine p_open c1 hwT (fun hlt I2 hT2 hF h12 => ⟨fun _ => ⟨by simp (disch := omega) only [fa_lit, nI_ltI, nI_leI, nI_eq, nI_add, pk_mul, nI_clamp, vp_in_nI, l_uk, l_n1, l_n1e, l_n1e2, l_n1l, l_n1l2, l_n1l3, not_true_eq_false, not_false_eq_true, true_implies, false_implies, true_and, and_true, and_self, forall_eq, bI_t, bI_f, Bool.false_eq_true, or_true, true_or, or_false, false_or, s1_ltx, if_true, if_false, Nat.add_zero, Nat.zero_add,  d_leF, d_leT, d_ltF, d_ltT, d_eqF, d_eqT], fun J4 e4 => ⟨hV, ?_⟩⟩, fun z => absurd z (by show ¬ nI T.1 = N1; simp (disch := omega) only [fa_lit, nI_ltI, nI_leI, nI_eq, nI_add, pk_mul, nI_clamp, vp_in_nI, l_uk, l_n1, l_n1e, l_n1e2, l_n1l, l_n1l2, l_n1l3, not_true_eq_false, not_false_eq_true, true_implies, false_implies, true_and, and_true, and_self, forall_eq, bI_t, bI_f, Bool.false_eq_true, or_true, true_or, or_false, false_or, s1_ltx, if_true, if_false, Nat.add_zero, Nat.zero_add,  d_leF, d_leT, d_ltF, d_ltT, d_eqF, d_eqT])⟩) (fun hge => ⟨fun z => absurd rfl z, fun _ => Or.inr ⟨rfl, hV, ?_⟩⟩)
      · have hw2 : Rw (opT T w, P, bu, Kk, Vv) := ⟨opT_w hwT hlt w1 w3, Pw_op hwP, hd, hbu, Kw_op hwK, Vw_op hwV⟩
        have hRc2 : Rc I2 (opT T w, P, bu, Kk, Vv) (i + 1) := by
          refine ⟨hT2, c2.cg (fun b h1 _ => hF b (by omega)), ⟨ch, by omega, ?_⟩, by rw [hF 0 (by omega)]; exact c4, c5.cg (fun b h1 _ => hF b (by omega)), c6.cg (fun b h1 _ => hF b (by omega))⟩
          have c3' : Ca I2 T P ch := c3.cg hwP h12 (fun b h1 _ => hF b (by omega))
          exact Ca_op hwP c3'
        have hL2 := h.lc hi hw2 hRc2 (fun b hb => hF b (by omega))
        obtain ⟨t2, p2, b2, k2, v2⟩ := hL2.2.2.2.2.1
        replace t2 : Tm I2 T := t2
        replace t2 : Tm (q_u2 I2 51 0 0) T := t2.w
        have ec : (nI T.1).toNatClampNeg = T.1 := nI_clamp (by omega)
        unfold wX8_table
        refine inn _ _ ⟨fun _ => ⟨fun _ => m_goesWell_0 ⟨fun _ => ⟨by rw [t2.1]; simp (disch := omega) only [fa_lit, nI_ltI, nI_leI, nI_eq, nI_add, pk_mul, nI_clamp, vp_in_nI, l_uk, l_n1, l_n1e, l_n1e2, l_n1l, l_n1l2, l_n1l3, not_true_eq_false, not_false_eq_true, true_implies, false_implies, true_and, and_true, and_self, forall_eq, bI_t, bI_f, Bool.false_eq_true, or_true, true_or, or_false, false_or, s1_ltx, if_true, if_false, Nat.add_zero, Nat.zero_add,  d_leF, d_leT, d_ltF, d_ltT, d_eqF, d_eqT], fun I4 e5 I5 e6 => ?_⟩, fun z => absurd z (by decide)⟩, fun z => ?_⟩, fun z => absurd z (by decide)⟩
        · rw [t2.1, ec] at e5
          have e4n : I4 51 1 = nI T.1 := by rw [e5, nr_u2 (by omega)]; exact t2.1
          have e4m : I4 51 1 + 1 = nI (T.1 + 1) := by rw [e4n]; show nI T.1 + nI 1 = _; rw [nI_add]
          rw [e4m] at e6
          have eb : ∀ b, b ≠ 51 → b ≠ 52 → I5 b = I2 b := fun b h1 h2 => by rw [e6, nr_u2 h1, e5, nr_u2 h2, nr_u2 h1]
          have ej : ∀ j, j ≠ 0 → j ≠ 1 → I5 51 j = I2 51 j := fun j h1 h2 => by rw [e6, q_u2_j _ _ _ h2, e5, nr_u2 (by omega), q_u2_j _ _ _ h1]
          have e51 : I5 51 1 = nI (T.1 + 1) := by rw [e6]; exact q_u2_s _ _ _ _
          have e50 : I5 51 0 = 0 := by rw [e6, q_u2_j _ _ _ (by omega), e5, nr_u2 (by omega)]; exact q_u2_s _ _ _ _
          have hT5 : Tm I5 (opT T w) := by
            refine ⟨e51, fun t ht => ⟨?_, ?_, fun r c hr hc => ?_⟩⟩
            · show I5 52 t = nI (if t = T.1 then w else T.2.1 t)
              rw [e6, nr_u2 (by omega), e5]
              by_cases e : t = T.1
              · rw [if_pos e, e]
                exact q_u2_s _ _ _ _
              · rw [if_neg e, q_u2_j _ _ _ e]
                exact (t2.2 t ht).1
            · rw [e6, nr_u2 (by omega), e5, nr_u2 (by omega)]
              exact (t2.2 t ht).2.1
            · rw [e6, nr_u2 (by omega), e5, nr_u2 (by omega)]
              exact (t2.2 t ht).2.2 r c hr hc
          refine m_fin9 hi e50 (fun _ => ?_) (hK _ S I5 J4 _ _ (hL2.lr (fun b hb => eb b (by omega) (by omega)) ⟨hT5, p2.cg (ej 5 (by omega) (by omega)) (fun b _ _ => eb b (by omega) (by omega)), (ej 13 (by omega) (by omega)).trans b2, k2.cg (ej 14 (by omega) (by omega)) (eb 62 (by omega) (by omega)), v2.cg (ej 16 (by omega) (by omega)) (eb 63 (by omega) (by omega))⟩ (ej 24 (by omega) (by omega)) (ej 27 (by omega) (by omega)) (fun b hb => eb b (by omega) (by omega))))
          rw [e4, e51]
          have e9 : nI (T.1 + 1) - 1 = nI T.1 := by show nI (T.1 + 1) - nI 1 = _; rw [pk_sub (by omega)]; rfl
          rw [e9]
          exact q_u2_s _ _ _ _
        · replace z : I2 51 1 = nI 4 := z
          have z2 : I2 51 1 = nI T.1 := hL2.2.2.2.2.1.1.1
          rw [z2, nI_eq (by omega) (by omega)] at z
          omega
      · have e4 : T.1 = 4 := by omega
        unfold wX8_table
        refine inn _ _ ⟨fun _ => ⟨fun z => absurd ?_ z, fun _ => m_goesWell_n (by decide) ⟨fun z => absurd rfl z, fun _ => m_no hK hL (by decide)⟩⟩, fun z => absurd z (by decide)⟩
        rw [m1.1, e4]
        rfl
    · show nI w ≤ nI 3
      rw [nI_leI (by omega) (by omega)]
      omega
  · have hbad : a < 1 ∨ 3 < a := hx.elim (fun z => Or.inl (Int32.lt_of_le_of_lt z (by decide))) (fun z => Or.inr (Int32.lt_of_lt_of_le (by decide) z))
    have M : wX8_table a I (fun r5 I4 => fin9 K post (nI (6 * i)) S I4 J (k + 1) (n + 6) 1 r5) := by
      unfold wX8_table
      have in0 : ∀ Q : Int32 → Prop, Q 0 → wX8_in a 1 3 I Q := fun Q hQ => ⟨fun _ => hQ, fun y => ⟨fun _ => hQ, fun y2 => absurd hbad (not_or.2 ⟨y, y2⟩)⟩⟩
      exact in0 _ ⟨fun z => absurd rfl z, fun _ => m_goesWell_n (by decide) ⟨fun z => absurd rfl z, fun _ => m_no hK hL (by decide)⟩⟩
    exact ⟨fun _ => Or.inl ⟨rfl, hV, M⟩, fun z => ⟨fun z2 => absurd hbad (not_or.2 ⟨z, Int32.not_lt.2 z2⟩), fun _ => Or.inl ⟨rfl, hV, M⟩⟩⟩
theorem L_0 {X : QX} (hl : X.2.1.2.1 ≤ 3072) (hi6 : 6 * i + 6 ≤ X.2.1.2.1) (hK : Kw9 K i) (h : LR i Z S I k n) : wL_c0 X K post (nI (6 * i)) S I J k n := by
  have hv : ∀ j : Nat, j < 6 → vp_in (nI (6 * i) + nI j) X.2.1.2.1 := fun j hj => by simp (disch := omega) only [fa_lit, nI_ltI, nI_leI, nI_eq, nI_add, pk_mul, nI_clamp, vp_in_nI, l_uk, l_n1, l_n1e, l_n1e2, l_n1l, l_n1l2, l_n1l3, not_true_eq_false, not_false_eq_true, true_implies, false_implies, true_and, and_true, and_self, forall_eq, bI_t, bI_f, Bool.false_eq_true, or_true, true_or, or_false, false_or, s1_ltx, if_true, if_false, Nat.add_zero, Nat.zero_add,  d_leF, d_leT, d_ltF, d_ltT, d_eqF, d_eqT]
  have hkn := h.kn
  exact ⟨hv 1 (by omega), hkn.1, hkn.2, b_table (hv 1 (by omega)) hK h (by omega)⟩
end LC
