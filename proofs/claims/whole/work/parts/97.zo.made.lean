/-! pure: the law's calls: nodes are made -/
section LC
theorem u2_u2 {α : Type} (f : Nat → Nat → α) (a i : Nat) (x y : α) : q_u2 (q_u2 f a i x) a i y = q_u2 f a i y := by
  funext b j
  unfold q_u2
  by_cases e : b = a ∧ j = i
  · rw [if_pos e, if_pos e]
  · rw [if_neg e, if_neg e, if_neg e]
theorem Pw_ap {T : QT} {P : List Nd} {q : Nd} (hw : Pw T P) (hq : nW T P P.length q) (hl : P.length < 24) : Pw T (P ++ [q]) := by
  have e9 : (P ++ [q]).length = P.length + 1 := by rw [List.length_append]; rfl
  refine ⟨by omega, fun m hm => ?_⟩
  by_cases e : m = P.length
  · subst e
    rw [nd_eq]
    exact nW_x hq (Nat.le_refl _) (XP.one P q)
  · rw [nd_lt (by omega)]
    exact nW_x (hw.2 m (by omega)) (by omega) (XP.one P q)
variable {K : Int32 → QS → QI → QJ → Nat → Nat → Prop} {post : Int32 → Prop} {i k n : Nat} {Z : Zs} {S : QS} {I : QI} {J : QJ}
theorem Pm.w {P : List Nd} {x : Int32} (h : Pm I P) : Pm (q_u2 I 51 0 x) P := h.cg (q_u2_j _ _ _ (by omega)) (fun b h1 h2 => nr_u2 (by omega))
/-- a call that both refuse -/
theorem gwF {c : Int32} {R : Int32 → QI → Prop} (hK : Kw9 K i) (h : Lc i Z Z S I k n) (hc : ¬ c = 0) : wX8_goesWell c I (fun r3 I2 => ((r3 = 0 → fin9 K post (nI (6 * i)) S I2 J (k + 1) (n + 6) c 0) ∧ (¬ r3 = 0 → R r3 I2))) := m_goesWell_n hc ⟨fun _ => m_no hK h hc, fun z => absurd rfl z⟩
theorem gwF2 {c : Int32} {R : Int32 → QI → Prop} (hK : Kw9 K i) (h : Lc i Z Z S I k n) (hc : ¬ c = 0) : wX8_goesWell c I (fun r3 I2 => ((¬ r3 = 0 → R r3 I2) ∧ (r3 = 0 → fin9 K post (nI (6 * i)) S I2 J (k + 1) (n + 6) c 0))) := m_goesWell_n hc ⟨fun z => absurd rfl z, fun _ => m_no hK h hc⟩
theorem gwT {Q : Int32 → QI → Prop} {R : QI → Prop} (h : R (q_u2 I 51 0 0)) : wX8_goesWell 0 I (fun r3 I2 => ((r3 = 0 → Q r3 I2) ∧ (¬ r3 = 0 → R I2))) := m_goesWell_0 ⟨fun z => absurd z (by decide), fun _ => h⟩
theorem gwT2 {Q : Int32 → QI → Prop} {R : QI → Prop} (h : R (q_u2 I 51 0 0)) : wX8_goesWell 0 I (fun r3 I2 => ((¬ r3 = 0 → R I2) ∧ (r3 = 0 → Q r3 I2))) := m_goesWell_0 ⟨fun _ => h, fun z => absurd z (by decide)⟩
theorem m_in_any {x a b : Int32} {Q : Int32 → Prop} (h : ∀ r, Q r) : wX8_in x a b I Q := ⟨fun _ => h 0, fun _ => ⟨fun _ => h 0, fun _ => h 1⟩⟩
theorem b_made {T : QT} {P : List Nd} {bu : Nat} {Kk Vv : List Q4} (hK : Kw9 K i) (h : LR i (T, P, bu, Kk, Vv) S I k n) (hi : i < 512) {q : Nd} (hq : nW T P P.length q) {c : Int32} (hc : ¬ c = 0) {W : QI → (Int32 → QI → Prop) → Prop} (hW : ∀ I2 Q, Tm I2 T → Pm I2 P → wX8_made (nI q.1) (nI q.2.1) (sB q.2.2.1) (o1 q) (o2 q) (o3 q) c (q_u2 I2 51 0 0) Q → W I2 Q) {Y : Int32 → QI → QJ → Prop} {X : QI → Prop} (hY : ∀ r1 I2 J3, W I2 (fun r5 I4 => fin9 K post (nI (6 * i)) S I4 J3 (k + 1) (n + 6) r1 r5) → Y r1 I2 J3) (hX : ∀ I2, Y c I2 J → X I2) : wX2_make (nI q.1) (nI q.2.1) (sB q.2.2.1) (nI q.2.2.2.1) (nI q.2.2.2.2.1) q.2.2.2.2.2.1 I (fun r I2 => ((¬ r = (-1) → (vp_in 0 1 ∧ (∀ J4 : QJ, J4 = q_u2 J 79 (0 : Int32).toNatClampNeg (r.toInt64) → Y 0 I2 J4))) ∧ (r = (-1) → X I2))) := by
  have hL := h.nc hi
  have hw := h.2.1
  obtain ⟨hwT, hwP, hd, hbu, hwK, hwV⟩ := h.2.1
  obtain ⟨c1, c2, ⟨ch, c0, c3⟩, c4, c5, c6⟩ := h.2.2.1
  obtain ⟨m1, m2, m3, m4, m5⟩ := h.2.2.2.1
  replace hwT : Tw T := hwT
  replace hwP : Pw T P := hwP
  replace c2 : Pc I P := c2
  replace m1 : Tm I T := m1
  replace m2 : Pm I P := m2
  have h24 := hwP.1
  have n1 : ∀ x : Nat, x < 24 → ¬ nI x = (-1 : Int32) := fun x hx => by show ¬ nI x = N1; simp (disch := omega) only [fa_lit, nI_ltI, nI_leI, nI_eq, nI_add, pk_mul, nI_clamp, vp_in_nI, l_uk, l_n1, l_n1e, l_n1e2, l_n1l, l_n1l2, l_n1l3, not_true_eq_false, not_false_eq_true, true_implies, false_implies, true_and, and_true, and_self, forall_eq, bI_t, bI_f, Bool.false_eq_true, or_true, true_or, or_false, false_or, s1_ltx, if_true, if_false, Nat.add_zero, Nat.zero_add,  d_leF, d_leT, d_ltF, d_ltT, d_eqF, d_eqT]
  have n2 : P.length ≤ 24 → ¬ nI P.length = (-1 : Int32) := fun hx => by show ¬ nI P.length = N1; simp (disch := omega) only [fa_lit, nI_ltI, nI_leI, nI_eq, nI_add, pk_mul, nI_clamp, vp_in_nI, l_uk, l_n1, l_n1e, l_n1e2, l_n1l, l_n1l2, l_n1l3, not_true_eq_false, not_false_eq_true, true_implies, false_implies, true_and, and_true, and_self, forall_eq, bI_t, bI_f, Bool.false_eq_true, or_true, true_or, or_false, false_or, s1_ltx, if_true, if_false, Nat.add_zero, Nat.zero_add,  d_leF, d_leT, d_ltF, d_ltT, d_eqF, d_eqT]
  refine p_make c1 hwT c2 hwP hq (fun i0 hi0 e => ⟨fun _ => ⟨by simp (disch := omega) only [fa_lit, nI_ltI, nI_leI, nI_eq, nI_add, pk_mul, nI_clamp, vp_in_nI, l_uk, l_n1, l_n1e, l_n1e2, l_n1l, l_n1l2, l_n1l3, not_true_eq_false, not_false_eq_true, true_implies, false_implies, true_and, and_true, and_self, forall_eq, bI_t, bI_f, Bool.false_eq_true, or_true, true_or, or_false, false_or, s1_ltx, if_true, if_false, Nat.add_zero, Nat.zero_add,  d_leF, d_leT, d_ltF, d_ltT, d_eqF, d_eqT], fun J4 e4 => hY _ _ _ (hW _ _ m1 m2 ?_)⟩, fun z => absurd z (n1 i0 (by omega))⟩) (fun e el => ⟨fun z => absurd rfl z, fun _ => hX _ (hY _ _ _ (hW _ _ m1 m2 ?_))⟩) (fun e el I2 hP2 hF => ⟨fun _ => ⟨by simp (disch := omega) only [fa_lit, nI_ltI, nI_leI, nI_eq, nI_add, pk_mul, nI_clamp, vp_in_nI, l_uk, l_n1, l_n1e, l_n1e2, l_n1l, l_n1l2, l_n1l3, not_true_eq_false, not_false_eq_true, true_implies, false_implies, true_and, and_true, and_self, forall_eq, bI_t, bI_f, Bool.false_eq_true, or_true, true_or, or_false, false_or, s1_ltx, if_true, if_false, Nat.add_zero, Nat.zero_add,  d_leF, d_leT, d_ltF, d_ltT, d_eqF, d_eqT], fun J4 e4 => hY _ _ _ ?_⟩, fun z => absurd z (n2 h24)⟩)
  · unfold wX8_made
    refine m_find m2.w hwP hq.1 (fun i1 hi1 e1 => ?_) (fun e1 => ?_)
    · cases e.symm.trans e1
      refine ⟨fun z => absurd z (n1 i0 (by omega)), fun _ I10 e10 => ?_⟩
      subst e10
      rw [u2_u2]
      exact m_yes hK hL (by rw [e4]; exact q_u2_s _ _ _ _)
    · rw [e] at e1
      cases e1
  · unfold wX8_made
    refine m_find m2.w hwP hq.1 (fun i1 hi1 e1 => by rw [e] at e1; cases e1) (fun e1 => ?_)
    refine ⟨fun _ => ⟨fun z => absurd ?_ z, fun _ => m_goesWell_n hc ⟨fun z => absurd rfl z, fun _ => ?_⟩⟩, fun z => absurd rfl z⟩
    · rw [m2.w.1, el]
      rfl
    · rw [u2_u2]
      exact m_no hK hL hc
  · have hXP := XP.one P q
    have hw2 : Rw (T, P ++ [q], bu, Kk, Vv) := ⟨hwT, Pw_ap hwP hq el, Pd.one hd e, hbu, hwK, hwV⟩
    have hRc2 : Rc I2 (T, P ++ [q], bu, Kk, Vv) (i + 1) := by
      refine ⟨c1.cg (fun b hb => hF b (by omega)), hP2, ⟨ch, by omega, ?_⟩, by rw [hF 0 (by omega)]; exact c4, c5.cg (fun b h1 _ => hF b (by omega)), c6.cg (fun b h1 _ => hF b (by omega))⟩
      have c3' : Ca I2 T P ch := c3.cg hwP (by rw [hF 1 (by omega)]) (fun b h1 _ => hF b (by omega))
      exact Ca_x hwP hXP c3'
    have hL2 := h.lc hi hw2 hRc2 (fun b hb => hF b (by omega))
    obtain ⟨t2, p2, b2, k2, v2⟩ := hL2.2.2.2.2.1
    replace t2 : Tm I2 T := t2
    replace p2 : Pm I2 P := p2
    have p51 : q_u2 I2 51 0 0 51 5 = nI P.length := p2.w.1
    refine hW _ _ t2 p2 ?_
    unfold wX8_made
    refine m_find p2.w hwP hq.1 (fun i1 hi1 e1 => by rw [e] at e1; cases e1) (fun e1 => ?_)
    refine ⟨fun _ => ⟨fun _ => m_goesWell_0 ⟨fun _ => ?_, fun z => absurd z (by decide)⟩, fun z => ?_⟩, fun z => absurd rfl z⟩
    · rw [u2_u2, p51]
      refine m_lay t2.w hwT p2.w hwP hq el (fun I4 hP4 hF4 I5 e5 => ?_)
      have e45 : I4 51 5 + 1 = nI (P.length + 1) := by
        rw [hF4 51 (by omega), p51]
        show nI P.length + nI 1 = _
        rw [nI_add]
      rw [e45] at e5
      have eb : ∀ b, b < 51 ∨ 62 ≤ b ∨ (52 ≤ b ∧ b < 55) → I5 b = I2 b := fun b hb => by rw [e5, nr_u2 (by omega), hF4 b (by omega), nr_u2 (by omega)]
      have ej : ∀ j, j ≠ 0 → j ≠ 5 → I5 51 j = I2 51 j := fun j h1 h2 => by rw [e5, q_u2_j _ _ _ h2, hF4 51 (by omega), q_u2_j _ _ _ h1]
      have e50 : I5 51 0 = 0 := by rw [e5, q_u2_j _ _ _ (by omega), hF4 51 (by omega)]; exact q_u2_s _ _ _ _
      have e55 : I5 51 5 = nI (P.length + 1) := by rw [e5]; exact q_u2_s _ _ _ _
      refine m_fin9 hi e50 (fun _ => ?_) (hK (T, P ++ [q], bu, Kk, Vv) S I5 J4 _ _ (hL2.lr (fun b hb => eb b (by omega)) ⟨t2.cg (ej 1 (by omega) (by omega)) (fun b _ _ => eb b (by omega)), by rw [e5]; exact hP4, (ej 13 (by omega) (by omega)).trans b2, k2.cg (ej 14 (by omega) (by omega)) (eb 62 (by omega)), v2.cg (ej 16 (by omega) (by omega)) (eb 63 (by omega))⟩ (ej 24 (by omega) (by omega)) (ej 27 (by omega) (by omega)) (fun b hb => eb b (by omega))))
      rw [e4, e55]
      have e9 : nI (P.length + 1) - 1 = nI P.length := by show nI (P.length + 1) - nI 1 = _; rw [pk_sub (by omega)]; rfl
      rw [e9]
      exact q_u2_s _ _ _ _
    · rw [p51] at z
      replace z : nI P.length = nI 24 := z
      rw [nI_eq (by omega) (by omega)] at z
      omega
theorem b_scan {V : Prop} {a : Int32} (hV : V) (hK : Kw9 K i) (h : LR i Z S I k n) (hi : i < 512) : wL_scan a I J (fun r1 I2 J3 => V ∧ wX8_scan a I2 (fun r5 I4 => fin9 K post (nI (6 * i)) S I4 J3 (k + 1) (n + 6) r1 r5)) := by
  have hL := h.nc hi
  obtain ⟨T, P, bu, Kk, Vv⟩ := Z
  obtain ⟨hwT, hwP, hd, hbu, hwK, hwV⟩ := h.2.1
  obtain ⟨c1, -⟩ := h.2.2.1
  obtain ⟨m1, -⟩ := h.2.2.2.1
  replace hwT : Tw T := hwT
  replace c1 : Tc I T := c1
  replace m1 : Tm I T := m1
  have t4 := hwT.1
  unfold wL_scan wX7_scan
  rcases ixc a T.1 (by omega) with ⟨t, ht, rfl⟩ | hx
  · obtain ⟨t4, w3, m10, w1⟩ := hwT.l ht
    refine find_t c1 hwT ht (b_some ?_)
    have hq : nW T P P.length (0, t, 0, 0, 0, 0, T.2.1 t) := ⟨⟨by show (0 : Nat) < 5; omega, by show t < 24; omega, by show (0 : Nat) ≤ 24; omega, by show (0 : Nat) < 6; omega, by show (0 : Nat) < 6; omega, w1, by show T.2.1 t ≤ 6; omega⟩, rfl, fun _ => ⟨ht, rfl, rfl, rfl, rfl⟩, fun z => absurd rfl z, fun z => absurd z (by show ¬ (0 : Nat) = 1; omega), fun z => absurd z (by show ¬ (0 : Nat) = 2; omega), fun z => absurd z (by show ¬ (0 : Nat) = 3; omega), fun z => absurd z (by show ¬ (0 : Nat) = 4; omega)⟩
    refine b_made (q := (0, t, 0, 0, 0, 0, T.2.1 t)) (c := 2) hK h hi hq (by decide) (W := fun I Q => wX8_scan (nI t) I Q) (Y := fun r1 I2 J3 => V ∧ wX8_scan (nI t) I2 (fun r5 I4 => fin9 K post (nI (6 * i)) S I4 J3 (k + 1) (n + 6) r1 r5)) (fun I2 Q h1 h2 h3 => ?_) (fun r1 I2 J3 h1 => ⟨hV, h1⟩) (fun I2 h1 => Or.inr ⟨rfl, h1⟩)
    unfold wX8_scan
    exact m_isTable h1 hwT ht ⟨fun z => absurd z (by decide), fun _ => gwT h3⟩
  · refine find_f c1 hwT hx (b_none (Or.inl ⟨rfl, hV, ?_⟩))
    exact m_isTable_f m1 hwT hx ⟨fun _ => gwF hK hL (by decide), fun z => absurd rfl z⟩
theorem L_3 {X : QX} (hl : X.2.1.2.1 ≤ 3072) (hi6 : 6 * i + 6 ≤ X.2.1.2.1) (hK : Kw9 K i) (h : LR i Z S I k n) : wL_c3 X K post (nI (6 * i)) S I J k n := by
  have hv : ∀ j : Nat, j < 6 → vp_in (nI (6 * i) + nI j) X.2.1.2.1 := fun j hj => by simp (disch := omega) only [fa_lit, nI_ltI, nI_leI, nI_eq, nI_add, pk_mul, nI_clamp, vp_in_nI, l_uk, l_n1, l_n1e, l_n1e2, l_n1l, l_n1l2, l_n1l3, not_true_eq_false, not_false_eq_true, true_implies, false_implies, true_and, and_true, and_self, forall_eq, bI_t, bI_f, Bool.false_eq_true, or_true, true_or, or_false, false_or, s1_ltx, if_true, if_false, Nat.add_zero, Nat.zero_add,  d_leF, d_leT, d_ltF, d_ltT, d_eqF, d_eqT]
  have hkn := h.kn
  exact ⟨hv 1 (by omega), hkn.1, hkn.2, b_scan (hv 1 (by omega)) hK h (by omega)⟩
end LC
