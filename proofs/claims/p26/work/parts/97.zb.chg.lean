/-! pure: what the calls that change something need -/
section LC
theorem nW_op {T : QT} {P : List Nd} {w m : Nat} {q : Nd} (h : nW T P m q) : nW (opT T w) P m q := by
  obtain ⟨a, b, c, d⟩ := h
  refine ⟨a, ?_, fun e => ⟨Nat.lt_succ_of_lt (c e).1, (c e).2⟩, d⟩
  rw [b]
  unfold wd
  by_cases e : q.1 = 0
  · rw [if_pos e, if_pos e]
    have := (c e).1
    show T.2.1 q.2.1 = if q.2.1 = T.1 then w else T.2.1 q.2.1
    rw [if_neg (by omega)]
  · rw [if_neg e, if_neg e]
theorem Pw_op {T : QT} {P : List Nd} {w : Nat} (h : Pw T P) : Pw (opT T w) P := ⟨h.1, fun m hm => nW_op (h.2 m hm)⟩
theorem q4_op {T : QT} {w : Nat} {q : Q4} (h : q4W T q) : q4W (opT T w) q := by
  obtain ⟨a, b, c, d⟩ := h
  refine ⟨Nat.lt_succ_of_lt a, Nat.lt_succ_of_lt b, ?_, ?_⟩
  · show _ < if q.1 = T.1 then w else T.2.1 q.1
    rw [if_neg (by omega)]
    exact c
  · show _ < if q.2.1 = T.1 then w else T.2.1 q.2.1
    rw [if_neg (by omega)]
    exact d
theorem Kw_op {T : QT} {V : List Q4} {w : Nat} (h : Kw T V) : Kw (opT T w) V := ⟨h.1, fun v hv => q4_op (h.2 v hv)⟩
theorem Vw_op {T : QT} {V : List Q4} {w : Nat} (h : Vw T V) : Vw (opT T w) V := ⟨h.1, fun v hv => q4_op (h.2 v hv)⟩
theorem flS_op {T : QT} {w a : Nat} (h : a < T.1) : ∀ i, flS (opT T w) a i = flS T a i
  | 0 => rfl
  | i + 1 => by
    have e : rowT (opT T w) a i = rowT T a i := by
      unfold rowT
      show (List.range (if a = T.1 then w else T.2.1 a)).map _ = _
      rw [if_neg (by omega)]
      rfl
    rw [flS, flS, flS_op h i, e]
theorem fil_op {T : QT} {P : List Nd} {m w : Nat} {q : Nd} (h : nW T P m q) (wb : Nat) (A B : List (List Int32)) : fil (opT T w) q wb A B = fil T q wb A B := by
  unfold fil
  by_cases e : q.1 = 0
  · rw [if_pos e, if_pos e]
    exact flS_op (h.2.2.1 e).1 _
  · rw [if_neg e, if_neg e]
theorem ev_op {T : QT} {P : List Nd} {w : Nat} (hw : Pw T P) : ∀ (f m : Nat), m < P.length → ev (opT T w) P f m = ev T P f m
  | 0, m, _ => rfl
  | f + 1, m, hm => by
    obtain ⟨ha, hb⟩ := (hw.2 m hm).ab
    have e1 : (if (nd P m).1 = 0 then some [] else ev (opT T w) P f (nd P m).2.1) = (if (nd P m).1 = 0 then some [] else ev T P f (nd P m).2.1) := by
      by_cases e : (nd P m).1 = 0
      · rw [if_pos e, if_pos e]
      · rw [if_neg e, if_neg e]
        have := ha e
        exact ev_op hw f _ (by omega)
    have e2 : (if (nd P m).2.2.1 = 0 then some [] else ev (opT T w) P f ((nd P m).2.2.1 - 1)) = (if (nd P m).2.2.1 = 0 then some [] else ev T P f ((nd P m).2.2.1 - 1)) := by
      by_cases e : (nd P m).2.2.1 = 0
      · rw [if_pos e, if_pos e]
      · rw [if_neg e, if_neg e]
        have := hb e
        exact ev_op hw f _ (by omega)
    rw [ev, ev, e1, e2]
    simp only [fil_op (hw.2 m hm)]
theorem EV_op {T : QT} {P : List Nd} {w : Nat} (hw : Pw T P) {m : Nat} (hm : m < P.length) : EV (opT T w) P m = EV T P m := ev_op hw _ m hm
theorem st_op {T : QT} {P : List Nd} {w : Nat} (hw : Pw T P) : ∀ (f m : Nat), m < P.length → st (opT T w) P f m = st T P f m
  | 0, m, _ => rfl
  | f + 1, m, hm => by
    obtain ⟨ha, hb⟩ := (hw.2 m hm).ab
    have e1 : (if (nd P m).1 = 0 then 0 else st (opT T w) P f (nd P m).2.1) = (if (nd P m).1 = 0 then 0 else st T P f (nd P m).2.1) := by
      by_cases e : (nd P m).1 = 0
      · rw [if_pos e, if_pos e]
      · rw [if_neg e, if_neg e]
        have := ha e
        exact st_op hw f _ (by omega)
    have e2 : (if (nd P m).2.2.1 = 0 then 0 else st (opT T w) P f ((nd P m).2.2.1 - 1)) = (if (nd P m).2.2.1 = 0 then 0 else st T P f ((nd P m).2.2.1 - 1)) := by
      by_cases e : (nd P m).2.2.1 = 0
      · rw [if_pos e, if_pos e]
      · rw [if_neg e, if_neg e]
        have := hb e
        exact st_op hw f _ (by omega)
    rw [st, st, EV_op hw hm, e1, e2]
theorem OKc_op {I : QI} {T : QT} {P : List Nd} {w : Nat} (hw : Pw T P) {m : Nat} (hm : m < P.length) (h : OKc I T P m) : OKc I (opT T w) P m := by
  have e1 := EV_op (w := w) hw hm
  have e2 : ST (opT T w) P m = ST T P m := st_op hw _ m hm
  cases e : EV T P m with
  | none => exact OKc.mn (e1.trans e) (h.n e)
  | some L => exact OKc.ms (e1.trans e) (h.s e).1 (by rw [e2]; exact (h.s e).2)
theorem Ca_op {I : QI} {T : QT} {P : List Nd} {w ch : Nat} (hw : Pw T P) (h : Ca I T P ch) : Ca I (opT T w) P ch := by
  refine ⟨h.1, fun m hm => ?_⟩
  obtain ⟨a, b⟩ := h.2 m hm
  refine ⟨a, fun z => ?_⟩
  obtain ⟨c, d⟩ := b z
  exact ⟨c, OKc_op hw c d⟩
theorem u2_u2 {α : Type} (f : Nat → Nat → α) (a i : Nat) (x y : α) : q_u2 (q_u2 f a i x) a i y = q_u2 f a i y := by
  funext b j
  unfold q_u2
  by_cases e : b = a ∧ j = i
  · rw [if_pos e, if_pos e]
  · rw [if_neg e, if_neg e, if_neg e]
theorem Pw_ap {T : QT} {P : List Nd} {q : Nd} (hw : Pw T P) (hq : nW T P P.length q) (hl : P.length < 24) : Pw T (P ++ [q]) := by
  have e9 : (P ++ [q]).length = P.length + 1 := by rw [List.length_append]; rfl
  refine ⟨by omega, fun m hm => ?_⟩
  by_cases e : m = P.length
  · subst e
    rw [nd_eq]
    exact nW_x hq (Nat.le_refl _) (XP.one P q)
  · rw [nd_lt (by omega)]
    exact nW_x (hw.2 m (by omega)) (by omega) (XP.one P q)
theorem vq_lt {V : List Q4} {q : Q4} {v : Nat} (h : v < V.length) : vq (V ++ [q]) v = vq V v := by
  unfold vq
  rw [List.getD_eq_getElem?_getD, List.getD_eq_getElem?_getD, List.getElem?_append_left h]
theorem vq_eq {V : List Q4} {q : Q4} : vq (V ++ [q]) V.length = q := by
  unfold vq
  rw [List.getD_eq_getElem?_getD, List.getElem?_append_right (Nat.le_refl _), Nat.sub_self]
  rfl
theorem q4_ap {T : QT} {V : List Q4} {q : Q4} (h : ∀ v, v < V.length → q4W T (vq V v)) (hq : q4W T q) : ∀ v, v < (V ++ [q]).length → q4W T (vq (V ++ [q]) v) := by
  intro v hv
  have e9 : (V ++ [q]).length = V.length + 1 := by rw [List.length_append]; rfl
  by_cases e : v = V.length
  · subst e
    rw [vq_eq]
    exact hq
  · rw [vq_lt (by omega)]
    exact h v (by omega)
theorem Pw_tv {T : QT} {P : List Nd} {R : Nat → Nat} {W : Nat → Nat → Nat → Int32} (h : Pw T P) : Pw (T.1, T.2.1, R, W) P := ⟨h.1, fun m hm => h.2 m hm⟩
theorem Kw_tv {T : QT} {V : List Q4} {R : Nat → Nat} {W : Nat → Nat → Nat → Int32} (h : Kw T V) : Kw (T.1, T.2.1, R, W) V := ⟨h.1, fun v hv => h.2 v hv⟩
theorem Vw_tv {T : QT} {V : List Q4} {R : Nat → Nat} {W : Nat → Nat → Nat → Int32} (h : Vw T V) : Vw (T.1, T.2.1, R, W) V := ⟨h.1, fun v hv => h.2 v hv⟩
variable {i k n : Nat} {Z : Zs} {S : QS} {I : QI} {J : QJ}
theorem p_widthJ {T : QT} {P : List Nd} {m1 m2 x : Nat} {Q : Int32 → Prop} (hP : Pc I P) (hw : Pw T P) (h1 : m1 < P.length) (h2 : m2 < P.length) (hx : x < 2) (h : Q (nI ((nd P m1).2.2.2.2.2.2 + (nd P m2).2.2.2.2.2.2))) : wX2_widthMade 2 (nI m1) (nI m2) (nI x) I Q := by
  unfold wX2_widthMade
  have go : wX2_widthOf (nI m1) I (fun r2 => (wX2_widthOf (nI m2) I (fun r3 => Q (r2 + r3)))) := p_widthOf hP hw h1 (p_widthOf hP hw h2 (by rw [nI_add]; exact h))
  refine ⟨fun _ => ⟨fun _ => ⟨fun z => absurd rfl z, fun _ => ⟨fun _ => go, fun z0 => ⟨fun z1 => ?_, fun _ => go⟩⟩⟩, fun z => absurd z (by decide)⟩, fun z => absurd z (by decide)⟩
  rcases (show x = 0 ∨ x = 1 by omega) with rfl | rfl
  · exact absurd rfl z0
  · exact absurd rfl z1
theorem p_widthJ2 {T : QT} {P : List Nd} {m1 m2 x : Nat} {Q : Int32 → Prop} (hP : Pc I P) (hw : Pw T P) (h1 : m1 < P.length) (hx : 2 ≤ x) (hx5 : x < 5) (h : Q (nI (nd P m1).2.2.2.2.2.2)) : wX2_widthMade 2 (nI m1) (nI m2) (nI x) I Q := by
  unfold wX2_widthMade
  refine ⟨fun _ => ⟨fun _ => ⟨fun z => absurd rfl z, fun _ => ⟨fun z => ?_, fun z0 => ⟨fun z1 => p_widthOf hP hw h1 h, fun z => ?_⟩⟩⟩, fun z => absurd z (by decide)⟩, fun z => absurd z (by decide)⟩
  · replace z : nI x = nI 0 := z
    rw [nI_eq (by omega) (by omega)] at z
    omega
  · replace z : nI x = nI 1 := z
    rw [nI_eq (by omega) (by omega)] at z
    omega
theorem p_hcol {T : QT} {t c : Nat} {Q : Int32 → Prop} (hT : Tc I T) (hwT : Tw T) (ht : t < T.1) (hc : c < T.2.1 t) (h : Q 1) : wX4_hasColumn (nI t) (nI c) I Q := by
  obtain ⟨t4, w3, m10, w1⟩ := hwT.l ht
  refine find_t hT hwT ht (b_some ?_)
  unfold wX5_hasColumn
  simp (disch := omega) only [(hT.t t4).1, fa_lit, nI_ltI, nI_leI, nI_eq, nI_add, pk_mul, nI_clamp, vp_in_nI, l_uk, l_n1, l_n1e, l_n1e2, l_n1l, l_n1l2, l_n1l3, not_true_eq_false, not_false_eq_true, true_implies, false_implies, true_and, and_true, and_self, forall_eq, bI_t, bI_f, Bool.false_eq_true, or_true, true_or, or_false, false_or, s1_ltx, if_true, if_false, Nat.add_zero, Nat.zero_add,  d_leF, d_leT, d_ltF, d_ltT, d_eqF, d_eqT]
  exact h
theorem p_hcol_f1 {T : QT} {x y : Int32} {Q : Int32 → Prop} (hT : Tc I T) (hwT : Tw T) (hx : x < 0 ∨ nI T.1 ≤ x) (h : Q 0) : wX4_hasColumn x y I Q := find_f hT hwT hx (b_none h)
theorem p_hcol_f2 {T : QT} {t : Nat} {x : Int32} {Q : Int32 → Prop} (hT : Tc I T) (hwT : Tw T) (ht : t < T.1) (hx : x < 0 ∨ nI (T.2.1 t) ≤ x) (h : Q 0) : wX4_hasColumn (nI t) x I Q := by
  obtain ⟨t4, w3, m10, w1⟩ := hwT.l ht
  refine find_t hT hwT ht (b_some ?_)
  unfold wX5_hasColumn
  rw [(hT.t t4).1]
  exact ⟨fun _ => ⟨fun _ => h, fun z => absurd rfl z⟩, fun e => ⟨fun _ => ⟨fun _ => h, fun z => absurd rfl z⟩, fun e2 => absurd hx (not_or.mpr ⟨e, e2⟩)⟩⟩
theorem p_lap {Kk : List Q4} {t o c d : Nat} {Q : Int32 → QI → Prop} (hK : Kc I Kk) (hl : Kk.length < 6) (h : ∀ I2, Kc I2 (Kk ++ [(t, o, c, d)]) → (∀ b, b < 37 ∨ 42 ≤ b → I2 b = I b) → Q (nI (Kk.length + 1)) I2) : wX1_append (nI t) (nI c) (nI o) (nI d) I Q := by
  have e9 : (Kk ++ [(t, o, c, d)]).length = Kk.length + 1 := by rw [List.length_append]; rfl
  unfold wX1_append
  simp (disch := omega) only [hK.1, q_u2_s, ne_u2, nr_u2, fa_lit, nI_ltI, nI_leI, nI_eq, nI_add, pk_mul, nI_clamp, vp_in_nI, l_uk, l_n1, l_n1e, l_n1e2, l_n1l, l_n1l2, l_n1l3, not_true_eq_false, not_false_eq_true, true_implies, false_implies, true_and, and_true, and_self, forall_eq, bI_t, bI_f, Bool.false_eq_true, or_true, true_or, or_false, false_or, s1_ltx, if_true, if_false, Nat.add_zero, Nat.zero_add,  d_leF, d_leT, d_ltF, d_ltT, d_eqF, d_eqT]
  refine h _ ⟨?_, fun v hv => ?_⟩ (fun b hb => ?_)
  · rw [e9]
    exact q_u2_s _ _ _ _
  · by_cases e : v = Kk.length
    · subst e
      rw [vq_eq]
      simp (disch := omega) only [q_u2_s, ne_u2, nr_u2, fa_lit, nI_ltI, nI_leI, nI_eq, nI_add, pk_mul, nI_clamp, vp_in_nI, l_uk, l_n1, l_n1e, l_n1e2, l_n1l, l_n1l2, l_n1l3, not_true_eq_false, not_false_eq_true, true_implies, false_implies, true_and, and_true, and_self, forall_eq, bI_t, bI_f, Bool.false_eq_true, or_true, true_or, or_false, false_or, s1_ltx, if_true, if_false, Nat.add_zero, Nat.zero_add,  d_leF, d_leT, d_ltF, d_ltT, d_eqF, d_eqT]
    · rw [vq_lt (by omega)]
      simp (disch := omega) only [hK.2 v (by omega), q_u2_s, ne_u2, nr_u2, fa_lit, nI_ltI, nI_leI, nI_eq, nI_add, pk_mul, nI_clamp, vp_in_nI, l_uk, l_n1, l_n1e, l_n1e2, l_n1l, l_n1l2, l_n1l3, not_true_eq_false, not_false_eq_true, true_implies, false_implies, true_and, and_true, and_self, forall_eq, bI_t, bI_f, Bool.false_eq_true, or_true, true_or, or_false, false_or, s1_ltx, if_true, if_false, Nat.add_zero, Nat.zero_add,  d_leF, d_leT, d_ltF, d_ltT, d_eqF, d_eqT]
  · simp (disch := omega) only [q_u2_s, ne_u2, nr_u2, fa_lit, nI_ltI, nI_leI, nI_eq, nI_add, pk_mul, nI_clamp, vp_in_nI, l_uk, l_n1, l_n1e, l_n1e2, l_n1l, l_n1l2, l_n1l3, not_true_eq_false, not_false_eq_true, true_implies, false_implies, true_and, and_true, and_self, forall_eq, bI_t, bI_f, Bool.false_eq_true, or_true, true_or, or_false, false_or, s1_ltx, if_true, if_false, Nat.add_zero, Nat.zero_add,  d_leF, d_leT, d_ltF, d_ltT, d_eqF, d_eqT]
theorem p_vap {Vv : List Q4} {t o c d : Nat} {Q : Int32 → QI → Prop} (hV : Vc I Vv) (hl : Vv.length < 4) (h : ∀ I2, Vc I2 (Vv ++ [(t, o, c, d)]) → (∀ b, b < 46 ∨ 51 ≤ b → I2 b = I b) → Q (nI Vv.length) I2) : wX6_append (nI t) (nI o) (nI c) (nI d) I Q := by
  have e9 : (Vv ++ [(t, o, c, d)]).length = Vv.length + 1 := by rw [List.length_append]; rfl
  unfold wX6_append
  simp (disch := omega) only [hV.1, q_u2_s, ne_u2, nr_u2, fa_lit, nI_ltI, nI_leI, nI_eq, nI_add, pk_mul, nI_clamp, vp_in_nI, l_uk, l_n1, l_n1e, l_n1e2, l_n1l, l_n1l2, l_n1l3, not_true_eq_false, not_false_eq_true, true_implies, false_implies, true_and, and_true, and_self, forall_eq, bI_t, bI_f, Bool.false_eq_true, or_true, true_or, or_false, false_or, s1_ltx, if_true, if_false, Nat.add_zero, Nat.zero_add,  d_leF, d_leT, d_ltF, d_ltT, d_eqF, d_eqT]
  have e8 : nI (Vv.length + 1) - nI 1 = nI Vv.length := by rw [pk_sub (by omega)]; rfl
  rw [e8]
  refine h _ ⟨?_, fun v hv => ?_⟩ (fun b hb => ?_)
  · rw [e9]
    exact q_u2_s _ _ _ _
  · by_cases e : v = Vv.length
    · subst e
      rw [vq_eq]
      simp (disch := omega) only [q_u2_s, ne_u2, nr_u2, fa_lit, nI_ltI, nI_leI, nI_eq, nI_add, pk_mul, nI_clamp, vp_in_nI, l_uk, l_n1, l_n1e, l_n1e2, l_n1l, l_n1l2, l_n1l3, not_true_eq_false, not_false_eq_true, true_implies, false_implies, true_and, and_true, and_self, forall_eq, bI_t, bI_f, Bool.false_eq_true, or_true, true_or, or_false, false_or, s1_ltx, if_true, if_false, Nat.add_zero, Nat.zero_add,  d_leF, d_leT, d_ltF, d_ltT, d_eqF, d_eqT]
    · rw [vq_lt (by omega)]
      simp (disch := omega) only [hV.2 v (by omega), q_u2_s, ne_u2, nr_u2, fa_lit, nI_ltI, nI_leI, nI_eq, nI_add, pk_mul, nI_clamp, vp_in_nI, l_uk, l_n1, l_n1e, l_n1e2, l_n1l, l_n1l2, l_n1l3, not_true_eq_false, not_false_eq_true, true_implies, false_implies, true_and, and_true, and_self, forall_eq, bI_t, bI_f, Bool.false_eq_true, or_true, true_or, or_false, false_or, s1_ltx, if_true, if_false, Nat.add_zero, Nat.zero_add,  d_leF, d_leT, d_ltF, d_ltT, d_eqF, d_eqT]
  · simp (disch := omega) only [q_u2_s, ne_u2, nr_u2, fa_lit, nI_ltI, nI_leI, nI_eq, nI_add, pk_mul, nI_clamp, vp_in_nI, l_uk, l_n1, l_n1e, l_n1e2, l_n1l, l_n1l2, l_n1l3, not_true_eq_false, not_false_eq_true, true_implies, false_implies, true_and, and_true, and_self, forall_eq, bI_t, bI_f, Bool.false_eq_true, or_true, true_or, or_false, false_or, s1_ltx, if_true, if_false, Nat.add_zero, Nat.zero_add,  d_leF, d_leT, d_ltF, d_ltT, d_eqF, d_eqT]
theorem Rc.chg {I2 : QI} {T T2 : QT} {P : List Nd} {bu : Nat} {Kk Vv : List Q4} (h : Rc I (T, P, bu, Kk, Vv) i) (hi : i < 512) (hT : Tc I2 T2) (hF : ∀ b, 15 ≤ b ∨ b = 0 → I2 b = I b) (h12 : I2 1 2 = I 1 2 + 1) : Rc I2 (T2, P, bu, Kk, Vv) (i + 1) := by
  obtain ⟨a, b, ⟨ch, c0, c⟩, d, f, g⟩ := h
  refine ⟨hT, b.cg (fun b h1 _ => hF b (by omega)), ⟨ch + 1, by omega, ?_, fun m hm => ?_⟩, by rw [hF 0 (by omega)]; exact d, f.cg (fun b h1 _ => hF b (by omega)), g.cg (fun b h1 _ => hF b (by omega))⟩
  · rw [h12, c.1]
    show nI ch + nI 1 = _
    rw [nI_add]
  · obtain ⟨⟨x, hx, ex⟩, -⟩ := c.2 m hm
    rw [hF 27 (by omega), ex]
    refine ⟨⟨x, by omega, rfl⟩, fun z => ?_⟩
    rw [nI_eq (by omega) (by omega)] at z
    omega
theorem Tc.c1 {T : QT} {x : Int32} (h : Tc I T) : Tc (q_u2 I 1 2 x) T := by
  refine ⟨(q_u2_j _ _ _ (by omega)).trans h.1, fun t ht => ?_⟩
  rw [nr_u2 (show 3 + 3 * t ≠ 1 by omega), nr_u2 (show 4 + 3 * t ≠ 1 by omega)]
  exact h.2 t ht
def rmT (T : QT) (t r : Nat) : QT := (T.1, T.2.1, fun u => if u = t then T.2.2.1 t - 1 else T.2.2.1 u, fun u q c => if u = t ∧ r ≤ q ∧ q + 1 < T.2.2.1 t then T.2.2.2 u (q + 1) c else T.2.2.2 u q c)
theorem rmT_w {T : QT} (hw : Tw T) {t r : Nat} (ht : t < T.1) : Tw (rmT T t r) := by
  refine ⟨hw.1, fun u hu => ?_⟩
  obtain ⟨x, y, z, d⟩ := hw.2 u hu
  show T.2.1 u ≤ 3 ∧ (if u = t then T.2.2.1 t - 1 else T.2.2.1 u) ≤ 10 ∧ (u < T.1 → 1 ≤ T.2.1 u) ∧ (T.1 ≤ u → (if u = t then T.2.2.1 t - 1 else T.2.2.1 u) = 0)
  have y2 := (hw.l ht).2.2.1
  refine ⟨x, by split <;> omega, z, fun h => ?_⟩
  rw [if_neg (by omega)]
  exact d h
theorem p_remove {T : QT} {t r : Nat} {Q : QI → Prop} (hT : Tc I T) (hw : Tw T) (ht : t < T.1) (hr : r < T.2.2.1 t) (h : ∀ I2, Tc I2 (rmT T t r) → (∀ b, 15 ≤ b ∨ b = 0 → I2 b = I b) → I2 1 2 = I 1 2 → Q I2) : wX5_remove t (nI r) I Q := by
  obtain ⟨t4, w3, m10, w1⟩ := hw.l ht
  unfold wX5_remove
  rw [(hT.t t4).2]
  refine ⟨fun z => absurd z (nI_nn (by omega)), fun _ => ⟨fun _ I1 e1 v2 e2 => ?_, fun z => absurd ?_ z⟩⟩
  · have e3 : v2 = nI (3 * r) := by
      rw [e2]
      show nI r * nI 3 = _
      rw [pk_mul, Nat.mul_comm]
    have e4 : nI (T.2.2.1 t) - 1 = nI (T.2.2.1 t - 1) := by
      show nI (T.2.2.1 t) - nI 1 = _
      rw [pk_sub (by omega)]
    rw [e4] at e1
    subst e3
    have g13 : ∀ b, b ≠ 3 + 3 * t → I1 b = I b := fun b hb => by rw [e1, nr_u2 hb]
    have g33 : I1 (3 + 3 * t) 3 = nI (T.2.2.1 t - 1) := by rw [e1]; exact q_u2_s _ _ _ _
    refine lp (fun f p (I' : QI) => wX5_remove_27 t (nI r) Q f (nI p) I') (fun p I' => 3 * r ≤ p ∧ (∀ b, b ≠ 4 + 3 * t → I' b = I1 b) ∧ ∀ j, I' (4 + 3 * t) j = if 3 * r ≤ j ∧ j < p then I (4 + 3 * t) (j + 3) else I (4 + 3 * t) j) (3 * (T.2.2.1 t - 1)) ?_ ?_ (3 * r) I1 (by omega) ⟨Nat.le_refl _, fun b hb => rfl, fun j => by rw [if_neg (by omega), g13 _ (by omega)]⟩
    · intro f I' hI
      obtain ⟨h0, h1, h2⟩ := hI
      show wX5_remove_27 _ _ _ _ _ _
      rw [wX5_remove_27, h1 (3 + 3 * t) (by omega), g33]
      refine ⟨fun _ => ?_, fun z => absurd ?_ z⟩
      · refine h I' ⟨?_, fun u hu => ⟨?_, ?_, fun q c hq hc => ?_⟩⟩ (fun b hb => ?_) ?_
        · rw [h1 1 (by omega), g13 1 (by omega)]
          exact hT.1
        · rw [h1 _ (by omega), e1]
          by_cases e : u = t
          · subst e
            rw [q_u2_j _ _ _ (by omega)]
            exact (hT.t hu).1
          · rw [nr_u2 (by omega)]
            exact (hT.t hu).1
        · rw [h1 _ (by omega), e1]
          show _ = nI (if u = t then T.2.2.1 t - 1 else T.2.2.1 u)
          by_cases e : u = t
          · subst e
            rw [if_pos rfl]
            exact q_u2_s _ _ _ _
          · rw [if_neg e, nr_u2 (by omega)]
            exact (hT.t hu).2
        · show _ = if u = t ∧ r ≤ q ∧ q + 1 < T.2.2.1 t then T.2.2.2 u (q + 1) c else T.2.2.2 u q c
          by_cases e : u = t
          · subst e
            rw [h2]
            by_cases e5 : r ≤ q ∧ q + 1 < T.2.2.1 u
            · rw [if_pos (by omega), if_pos ⟨rfl, e5⟩, ← (hT.2 u hu).2.2 (q + 1) c (by omega) hc]
              exact congrArg _ (by omega)
            · rw [if_neg (by omega), if_neg (fun z => e5 z.2)]
              exact (hT.2 u hu).2.2 q c hq hc
          · rw [h1 _ (by omega), g13 _ (by omega), if_neg (fun z => e z.1)]
            exact (hT.2 u hu).2.2 q c hq hc
        · rw [h1 b (by omega), g13 b (by omega)]
        · rw [h1 1 (by omega), g13 1 (by omega)]
      · show nI (T.2.2.1 t - 1) * nI 3 ≤ _
        rw [pk_mul, nI_leI (by omega) (by omega)]
        omega
    · intro f p I' hp hI hk
      obtain ⟨h0, h1, h2⟩ := hI
      show wX5_remove_27 _ _ _ _ _ _
      rw [wX5_remove_27, h1 (3 + 3 * t) (by omega), g33]
      refine ⟨fun z => ?_, fun _ => ⟨by simp (disch := omega) only [fa_lit, nI_ltI, nI_leI, nI_eq, nI_add, pk_mul, nI_clamp, vp_in_nI, l_uk, l_n1, l_n1e, l_n1e2, l_n1l, l_n1l2, l_n1l3, not_true_eq_false, not_false_eq_true, true_implies, false_implies, true_and, and_true, and_self, forall_eq, bI_t, bI_f, Bool.false_eq_true, or_true, true_or, or_false, false_or, s1_ltx, if_true, if_false, Nat.add_zero, Nat.zero_add,  d_leF, d_leT, d_ltF, d_ltT, d_eqF, d_eqT], by simp (disch := omega) only [fa_lit, nI_ltI, nI_leI, nI_eq, nI_add, pk_mul, nI_clamp, vp_in_nI, l_uk, l_n1, l_n1e, l_n1e2, l_n1l, l_n1l2, l_n1l3, not_true_eq_false, not_false_eq_true, true_implies, false_implies, true_and, and_true, and_self, forall_eq, bI_t, bI_f, Bool.false_eq_true, or_true, true_or, or_false, false_or, s1_ltx, if_true, if_false, Nat.add_zero, Nat.zero_add,  d_leF, d_leT, d_ltF, d_ltT, d_eqF, d_eqT], fun I3 e5 v4 e6 => ?_⟩⟩
      · replace z : nI (T.2.2.1 t - 1) * nI 3 ≤ nI p := z
        rw [pk_mul, nI_leI (by omega) (by omega)] at z
        omega
      · have e7 : v4 = nI (p + 1) := by
          rw [e6]
          show nI p + nI 1 = _
          rw [nI_add]
        have c0 : (nI p).toNatClampNeg = p := nI_clamp (by omega)
        have c3 : (nI p + 3).toNatClampNeg = p + 3 := by
          show (nI p + nI 3).toNatClampNeg = _
          rw [nI_add]
          exact nI_clamp (by omega)
        rw [c0, c3] at e5
        subst e7
        refine hk I3 ⟨by omega, fun b hb => by rw [e5, nr_u2 hb]; exact h1 b hb, fun j => ?_⟩
        rw [e5]
        by_cases e : j = p
        · subst e
          rw [q_u2_s, h2, if_neg (by omega), if_pos (by omega)]
        · rw [q_u2_j _ _ _ e, h2]
          by_cases e8 : 3 * r ≤ j ∧ j < p
          · rw [if_pos e8, if_pos (by omega)]
          · rw [if_neg e8, if_neg (by omega)]
  · rw [nI_ltI (by omega) (by omega)]
    exact hr
end LC
