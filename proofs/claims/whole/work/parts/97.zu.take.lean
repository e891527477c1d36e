/-! pure: the law's calls: take -/
section LC
variable {K : Int32 → QS → QI → QJ → Nat → Nat → Prop} {post : Int32 → Prop} {i k n : Nat} {Z : Zs} {S : QS} {I : QI} {J : QJ}
def rmT (T : QT) (t r : Nat) : QT := (T.1, T.2.1, fun u => if u = t then T.2.2.1 t - 1 else T.2.2.1 u, fun u q c => if u = t ∧ r ≤ q ∧ q + 1 < T.2.2.1 t then T.2.2.2 u (q + 1) c else T.2.2.2 u q c)
theorem rmT_w {T : QT} (hw : Tw T) {t r : Nat} (ht : t < T.1) : Tw (rmT T t r) := by
  refine ⟨hw.1, fun u hu => ?_⟩
  obtain ⟨x, y, z, d⟩ := hw.2 u hu
  show T.2.1 u ≤ 3 ∧ (if u = t then T.2.2.1 t - 1 else T.2.2.1 u) ≤ 10 ∧ (u < T.1 → 1 ≤ T.2.1 u) ∧ (T.1 ≤ u → (if u = t then T.2.2.1 t - 1 else T.2.2.1 u) = 0)
  have y2 := (hw.l ht).2.2.1
  refine ⟨x, by split <;> omega, z, fun h => ?_⟩
  rw [if_neg (by omega)]
  exact d h
theorem p_remove {T : QT} {t r : Nat} {Q : QI → Prop} (hT : Tc I T) (hw : Tw T) (ht : t < T.1) (hr : r < T.2.2.1 t) (h : ∀ I2, Tc I2 (rmT T t r) → (∀ b, 15 ≤ b ∨ b = 0 → I2 b = I b) → I2 1 2 = I 1 2 → Q I2) : wX5_remove t (nI r) I Q := by
  obtain ⟨t4, w3, m10, w1⟩ := hw.l ht
  unfold wX5_remove
  rw [(hT.t t4).2]
  refine ⟨fun z => absurd z (nI_nn (by omega)), fun _ => ⟨fun _ I1 e1 v2 e2 => ?_, fun z => absurd ?_ z⟩⟩
  · have e3 : v2 = nI (3 * r) := by
      rw [e2]
      show nI r * nI 3 = _
      rw [pk_mul, Nat.mul_comm]
    have e4 : nI (T.2.2.1 t) - 1 = nI (T.2.2.1 t - 1) := by
      show nI (T.2.2.1 t) - nI 1 = _
      rw [pk_sub (by omega)]
    rw [e4] at e1
    subst e3
    have g13 : ∀ b, b ≠ 3 + 3 * t → I1 b = I b := fun b hb => by rw [e1, nr_u2 hb]
    have g33 : I1 (3 + 3 * t) 3 = nI (T.2.2.1 t - 1) := by rw [e1]; exact q_u2_s _ _ _ _
    refine lp (fun f p (I' : QI) => wX5_remove_27 t (nI r) Q f (nI p) I') (fun p I' => 3 * r ≤ p ∧ (∀ b, b ≠ 4 + 3 * t → I' b = I1 b) ∧ ∀ j, I' (4 + 3 * t) j = if 3 * r ≤ j ∧ j < p then I (4 + 3 * t) (j + 3) else I (4 + 3 * t) j) (3 * (T.2.2.1 t - 1)) ?_ ?_ (3 * r) I1 (by omega) ⟨Nat.le_refl _, fun b hb => rfl, fun j => by rw [if_neg (by omega), g13 _ (by omega)]⟩
    · intro f I' hI
      obtain ⟨h0, h1, h2⟩ := hI
      show wX5_remove_27 _ _ _ _ _ _
      rw [wX5_remove_27, h1 (3 + 3 * t) (by omega), g33]
      refine ⟨fun _ => ?_, fun z => absurd ?_ z⟩
      · refine h I' ⟨?_, fun u hu => ⟨?_, ?_, fun q c hq hc => ?_⟩⟩ (fun b hb => ?_) ?_
        · rw [h1 1 (by omega), g13 1 (by omega)]
          exact hT.1
        · rw [h1 _ (by omega), e1]
          by_cases e : u = t
          · subst e
            rw [q_u2_j _ _ _ (by omega)]
            exact (hT.t hu).1
          · rw [nr_u2 (by omega)]
            exact (hT.t hu).1
        · rw [h1 _ (by omega), e1]
          show _ = nI (if u = t then T.2.2.1 t - 1 else T.2.2.1 u)
          by_cases e : u = t
          · subst e
            rw [if_pos rfl]
            exact q_u2_s _ _ _ _
          · rw [if_neg e, nr_u2 (by omega)]
            exact (hT.t hu).2
        · show _ = if u = t ∧ r ≤ q ∧ q + 1 < T.2.2.1 t then T.2.2.2 u (q + 1) c else T.2.2.2 u q c
          by_cases e : u = t
          · subst e
            rw [h2]
            by_cases e5 : r ≤ q ∧ q + 1 < T.2.2.1 u
            · rw [if_pos (by omega), if_pos ⟨rfl, e5⟩, ← (hT.2 u hu).2.2 (q + 1) c (by omega) hc]
              exact congrArg _ (by omega)
            · rw [if_neg (by omega), if_neg (fun z => e5 z.2)]
              exact (hT.2 u hu).2.2 q c hq hc
          · rw [h1 _ (by omega), g13 _ (by omega), if_neg (fun z => e z.1)]
            exact (hT.2 u hu).2.2 q c hq hc
        · rw [h1 b (by omega), g13 b (by omega)]
        · rw [h1 1 (by omega), g13 1 (by omega)]
      · show nI (T.2.2.1 t - 1) * nI 3 ≤ _
        rw [pk_mul, nI_leI (by omega) (by omega)]
        omega
    · intro f p I' hp hI hk
      obtain ⟨h0, h1, h2⟩ := hI
      show wX5_remove_27 _ _ _ _ _ _
      rw [wX5_remove_27, h1 (3 + 3 * t) (by omega), g33]
      refine ⟨fun z => ?_, fun _ => ⟨by simp (disch := omega) only [fa_lit, nI_ltI, nI_leI, nI_eq, nI_add, pk_mul, nI_clamp, vp_in_nI, l_uk, l_n1, l_n1e, l_n1e2, l_n1l, l_n1l2, l_n1l3, not_true_eq_false, not_false_eq_true, true_implies, false_implies, true_and, and_true, and_self, forall_eq, bI_t, bI_f, Bool.false_eq_true, or_true, true_or, or_false, false_or, s1_ltx, if_true, if_false, Nat.add_zero, Nat.zero_add,  d_leF, d_leT, d_ltF, d_ltT, d_eqF, d_eqT], by simp (disch := omega) only [fa_lit, nI_ltI, nI_leI, nI_eq, nI_add, pk_mul, nI_clamp, vp_in_nI, l_uk, l_n1, l_n1e, l_n1e2, l_n1l, l_n1l2, l_n1l3, not_true_eq_false, not_false_eq_true, true_implies, false_implies, true_and, and_true, and_self, forall_eq, bI_t, bI_f, Bool.false_eq_true, or_true, true_or, or_false, false_or, s1_ltx, if_true, if_false, Nat.add_zero, Nat.zero_add,  d_leF, d_leT, d_ltF, d_ltT, d_eqF, d_eqT], fun I3 e5 v4 e6 => ?_⟩⟩
      · replace z : nI (T.2.2.1 t - 1) * nI 3 ≤ nI p := z
        rw [pk_mul, nI_leI (by omega) (by omega)] at z
        omega
      · have e7 : v4 = nI (p + 1) := by
          rw [e6]
          show nI p + nI 1 = _
          rw [nI_add]
        have c0 : (nI p).toNatClampNeg = p := nI_clamp (by omega)
        have c3 : (nI p + 3).toNatClampNeg = p + 3 := by
          show (nI p + nI 3).toNatClampNeg = _
          rw [nI_add]
          exact nI_clamp (by omega)
        rw [c0, c3] at e5
        subst e7
        refine hk I3 ⟨by omega, fun b hb => by rw [e5, nr_u2 hb]; exact h1 b hb, fun j => ?_⟩
        rw [e5]
        by_cases e : j = p
        · subst e
          rw [q_u2_s, h2, if_neg (by omega), if_pos (by omega)]
        · rw [q_u2_j _ _ _ e, h2]
          by_cases e8 : 3 * r ≤ j ∧ j < p
          · rw [if_pos e8, if_pos (by omega)]
          · rw [if_neg e8, if_neg (by omega)]
  · rw [nI_ltI (by omega) (by omega)]
    exact hr
theorem m_rem {T : QT} {t r : Nat} {a2 : Int32} {Q : Int32 → QI → Prop} (hT : Tm I T) (hw : Tw T) (ht : t < T.1) (hr : r < T.2.2.1 t) {x : Int32} (hx : x = ((10 * nI t) + nI r) * 3) (h : ∀ I2, Tm I2 (rmT T t r) → (∀ b, b ≠ 53 → b ≠ 54 → I2 b = I b) → Q (nI (T.2.2.1 t - 1)) I2) : ∃ f : Nat, wX8_take_58 (nI t) a2 (fun I7 => (vp_in (nI t) 4 ∧ (vp_in (nI t) 4 ∧ (∀ I8 : QI, I8 = q_u2 I7 53 (nI t).toNatClampNeg ((I7 53 (nI t).toNatClampNeg) - 1) → (vp_in (nI t) 4 ∧ Q (I8 53 (nI t).toNatClampNeg) I8))))) Q f x I := by
  obtain ⟨t4, w3, m10, w1⟩ := hw.l ht
  have hv : vp_in (nI t) 4 := by simp (disch := omega) only [fa_lit, nI_ltI, nI_leI, nI_eq, nI_add, pk_mul, nI_clamp, vp_in_nI, l_uk, l_n1, l_n1e, l_n1e2, l_n1l, l_n1l2, l_n1l3, not_true_eq_false, not_false_eq_true, true_implies, false_implies, true_and, and_true, and_self, forall_eq, bI_t, bI_f, Bool.false_eq_true, or_true, true_or, or_false, false_or, s1_ltx, if_true, if_false, Nat.add_zero, Nat.zero_add,  d_leF, d_leT, d_ltF, d_ltT, d_eqF, d_eqT]
  have ec : (nI t).toNatClampNeg = t := nI_clamp (by omega)
  have e3 : x = nI (30 * t + 3 * r) := by
    rw [hx]
    show (nI 10 * nI t + nI r) * nI 3 = _
    rw [pk_mul, nI_add, pk_mul]
    exact congrArg nI (by omega)
  have lim : ((10 * nI t + nI (T.2.2.1 t)) - 1) * 3 = nI (30 * t + 3 * (T.2.2.1 t - 1)) := by
    show ((nI 10 * nI t + nI (T.2.2.1 t)) - nI 1) * nI 3 = _
    rw [pk_mul, nI_add, pk_sub (by omega), pk_mul]
    exact congrArg nI (by omega)
  subst e3
  rw [ec]
  refine lp (fun f p (I' : QI) => wX8_take_58 (nI t) a2 (fun I7 => (vp_in (nI t) 4 ∧ (vp_in (nI t) 4 ∧ (∀ I8 : QI, I8 = q_u2 I7 53 t ((I7 53 t) - 1) → (vp_in (nI t) 4 ∧ Q (I8 53 t) I8))))) Q f (nI p) I') (fun p I' => 30 * t + 3 * r ≤ p ∧ (∀ b, b ≠ 54 → I' b = I b) ∧ ∀ j, I' 54 j = if 30 * t + 3 * r ≤ j ∧ j < p then I 54 (j + 3) else I 54 j) (30 * t + 3 * (T.2.2.1 t - 1)) ?_ ?_ (30 * t + 3 * r) I (by omega) ⟨Nat.le_refl _, fun b hb => rfl, fun j => by rw [if_neg (by omega)]⟩
  · intro f I' hI
    obtain ⟨h0, h1, h2⟩ := hI
    have e53 : I' 53 t = nI (T.2.2.1 t) := by rw [h1 53 (by omega)]; exact (hT.t t4).2
    show wX8_take_58 _ _ _ _ _ _ _
    rw [wX8_take_58, ec, e53, lim]
    refine ⟨hv, fun _ => ⟨hv, hv, fun I8 e8 => ⟨hv, ?_⟩⟩, fun z => absurd (Int32.le_refl _) z⟩
    have e4 : nI (T.2.2.1 t) - 1 = nI (T.2.2.1 t - 1) := by
      show nI (T.2.2.1 t) - nI 1 = _
      rw [pk_sub (by omega)]
    rw [e4] at e8
    have e9 : I8 53 t = nI (T.2.2.1 t - 1) := by rw [e8]; exact q_u2_s _ _ _ _
    rw [e9]
    refine h I8 ⟨?_, fun u hu => ⟨?_, ?_, fun q c hq hc => ?_⟩⟩ (fun b hb hb2 => ?_)
    · rw [e8, nr_u2 (by omega), h1 51 (by omega)]
      exact hT.1
    · rw [e8, nr_u2 (by omega), h1 52 (by omega)]
      exact (hT.t hu).1
    · show _ = nI (if u = t then T.2.2.1 t - 1 else T.2.2.1 u)
      by_cases e : u = t
      · subst e
        rw [if_pos rfl]
        exact e9
      · rw [if_neg e, e8, q_u2_j _ _ _ e, h1 53 (by omega)]
        exact (hT.t hu).2
    · show _ = if u = t ∧ r ≤ q ∧ q + 1 < T.2.2.1 t then T.2.2.2 u (q + 1) c else T.2.2.2 u q c
      rw [e8, nr_u2 (by omega), h2]
      have h10 := (hw.2 u hu).2.1
      by_cases e : u = t ∧ r ≤ q ∧ q + 1 < T.2.2.1 t
      · rw [if_pos e, if_pos (by obtain ⟨rfl, e5⟩ := e; omega), ← (hT.2 u hu).2.2 (q + 1) c (by omega) hc]
        exact congrArg _ (by omega)
      · rw [if_neg e, if_neg (by omega)]
        exact (hT.2 u hu).2.2 q c hq hc
    · rw [e8, nr_u2 hb]
      exact h1 b hb2
  · intro f p I' hp hI hk
    obtain ⟨h0, h1, h2⟩ := hI
    have e53 : I' 53 t = nI (T.2.2.1 t) := by rw [h1 53 (by omega)]; exact (hT.t t4).2
    show wX8_take_58 _ _ _ _ _ _ _
    rw [wX8_take_58, ec, e53, lim]
    refine ⟨hv, fun z => ?_, fun _ => ⟨by simp (disch := omega) only [fa_lit, nI_ltI, nI_leI, nI_eq, nI_add, pk_mul, nI_clamp, vp_in_nI, l_uk, l_n1, l_n1e, l_n1e2, l_n1l, l_n1l2, l_n1l3, not_true_eq_false, not_false_eq_true, true_implies, false_implies, true_and, and_true, and_self, forall_eq, bI_t, bI_f, Bool.false_eq_true, or_true, true_or, or_false, false_or, s1_ltx, if_true, if_false, Nat.add_zero, Nat.zero_add,  d_leF, d_leT, d_ltF, d_ltT, d_eqF, d_eqT], by simp (disch := omega) only [fa_lit, nI_ltI, nI_leI, nI_eq, nI_add, pk_mul, nI_clamp, vp_in_nI, l_uk, l_n1, l_n1e, l_n1e2, l_n1l, l_n1l2, l_n1l3, not_true_eq_false, not_false_eq_true, true_implies, false_implies, true_and, and_true, and_self, forall_eq, bI_t, bI_f, Bool.false_eq_true, or_true, true_or, or_false, false_or, s1_ltx, if_true, if_false, Nat.add_zero, Nat.zero_add,  d_leF, d_leT, d_ltF, d_ltT, d_eqF, d_eqT], fun I3 e5 v4 e6 => ?_⟩⟩
    · rw [nI_leI (by omega) (by omega)] at z
      omega
    · have e7 : v4 = nI (p + 1) := by
        rw [e6]
        show nI p + nI 1 = _
        rw [nI_add]
      have c0 : (nI p).toNatClampNeg = p := nI_clamp (by omega)
      have c3 : (nI p + 3).toNatClampNeg = p + 3 := by
        show (nI p + nI 3).toNatClampNeg = _
        rw [nI_add]
        exact nI_clamp (by omega)
      rw [c0, c3] at e5
      subst e7
      refine hk I3 ⟨by omega, fun b hb => by rw [e5, nr_u2 hb]; exact h1 b hb, fun j => ?_⟩
      rw [e5]
      by_cases e : j = p
      · subst e
        rw [q_u2_s, h2, if_neg (by omega), if_pos (by omega)]
      · rw [q_u2_j _ _ _ e, h2]
        by_cases e8 : 30 * t + 3 * r ≤ j ∧ j < p
        · rw [if_pos e8, if_pos (by omega)]
        · rw [if_neg e8, if_neg (by omega)]
theorem b_take {V1 V2 : Prop} {a1 a2 : Int32} (hV : V1 ∧ V2) (hK : Kw9 K i) (h : LR i Z S I k n) (hi : i < 512) : wL_take a1 a2 I J (fun r1 I2 J3 => V1 ∧ (V2 ∧ wX8_take a1 a2 I2 (fun r5 I4 => fin9 K post (nI (6 * i)) S I4 J3 (k + 1) (n + 6) r1 r5))) := by
  have hL := h.nc hi
  obtain ⟨T, P, bu, Kk, Vv⟩ := Z
  obtain ⟨hwT, hwP, hd, hbu, hwK, hwV⟩ := h.2.1
  have hRc := h.2.2.1
  obtain ⟨c1, -⟩ := h.2.2.1
  obtain ⟨m1, -⟩ := h.2.2.2.1
  obtain ⟨hV1, hV2⟩ := hV
  replace hwT : Tw T := hwT
  replace c1 : Tc I T := c1
  replace m1 : Tm I T := m1
  have t4 := hwT.1
  unfold wL_take wX7_take
  rcases ixc a1 T.1 (by omega) with ⟨t, ht, rfl⟩ | hx
  · obtain ⟨t4, w3, m10, w1⟩ := hwT.l ht
    have hv : vp_in (nI t) 4 := by simp (disch := omega) only [fa_lit, nI_ltI, nI_leI, nI_eq, nI_add, pk_mul, nI_clamp, vp_in_nI, l_uk, l_n1, l_n1e, l_n1e2, l_n1l, l_n1l2, l_n1l3, not_true_eq_false, not_false_eq_true, true_implies, false_implies, true_and, and_true, and_self, forall_eq, bI_t, bI_f, Bool.false_eq_true, or_true, true_or, or_false, false_or, s1_ltx, if_true, if_false, Nat.add_zero, Nat.zero_add,  d_leF, d_leT, d_ltF, d_ltT, d_eqF, d_eqT]
    have ec : (nI t).toNatClampNeg = t := nI_clamp (by omega)
    refine find_t c1 hwT ht (b_some ?_)
    rcases ixc a2 (T.2.2.1 t) (by omega) with ⟨r, hr, rfl⟩ | hx
    · refine p_hasRow c1 hwT t4 hr ⟨fun _ => ?_, fun z => absurd z (by decide)⟩
      refine p_remove c1 hwT ht hr (fun I5 hT5 hF5 h12 I6 e6 => ?_)
      unfold wX5_count
      have hT6 : Tc I6 (rmT T t r) := by rw [e6]; exact hT5.c1
      refine ⟨by simp (disch := omega) only [fa_lit, nI_ltI, nI_leI, nI_eq, nI_add, pk_mul, nI_clamp, vp_in_nI, l_uk, l_n1, l_n1e, l_n1e2, l_n1l, l_n1l2, l_n1l3, not_true_eq_false, not_false_eq_true, true_implies, false_implies, true_and, and_true, and_self, forall_eq, bI_t, bI_f, Bool.false_eq_true, or_true, true_or, or_false, false_or, s1_ltx, if_true, if_false, Nat.add_zero, Nat.zero_add,  d_leF, d_leT, d_ltF, d_ltT, d_eqF, d_eqT], fun J4 e4 => ⟨hV1, hV2, ?_⟩⟩
      have e7 : I6 (3 + 3 * t) 3 = nI (T.2.2.1 t - 1) := by
        rw [(hT6.t t4).2]
        show nI (if t = t then T.2.2.1 t - 1 else T.2.2.1 t) = _
        rw [if_pos rfl]
      have hF6 : ∀ b, 15 ≤ b ∨ b = 0 → I6 b = I b := fun b hb => by rw [e6, nr_u2 (by omega)]; exact hF5 b hb
      have hw2 : Rw (rmT T t r, P, bu, Kk, Vv) := ⟨rmT_w hwT ht, Pw_tv hwP, hd, hbu, Kw_tv hwK, Vw_tv hwV⟩
      have hL2 := h.lc hi hw2 (hRc.chg hi hT6 hF6 (by rw [e6, ← h12]; exact q_u2_s _ _ _ _)) (fun b hb => hF6 b (by omega))
      obtain ⟨t2, p2, b2, k2, v2⟩ := hL2.2.2.2.2.1
      replace t2 : Tm I6 T := t2
      unfold wX8_take
      refine m_isTable t2 hwT ht ⟨fun z => absurd z (by decide), fun _ => ⟨hv, ?_⟩⟩
      have e53 : I6 53 (nI t).toNatClampNeg = nI (T.2.2.1 t) := by rw [ec]; exact (t2.t t4).2
      rw [e53]
      refine m_in hr (by omega) ⟨fun z => absurd z (by decide), fun _ => m_goesWell_0 ⟨fun _ v17 e17 => m_rem (Q := fun r5 I4 => fin9 K post (nI (6 * i)) S I4 J4 (k + 1) (n + 6) 0 r5) t2.w hwT ht hr e17 (fun I8 hT8 hF8 => ?_), fun z => absurd z (by decide)⟩⟩
      have eb : ∀ b, b ≠ 51 → b ≠ 53 → b ≠ 54 → I8 b = I6 b := fun b h1 h2 h3 => by rw [hF8 b h2 h3, nr_u2 h1]
      have ej : ∀ j, j ≠ 0 → I8 51 j = I6 51 j := fun j h1 => by rw [hF8 51 (by omega) (by omega), q_u2_j _ _ _ h1]
      refine m_fin9 hi (by rw [hF8 51 (by omega) (by omega)]; exact q_u2_s _ _ _ _) (fun _ => ?_) (hK (rmT T t r, P, bu, Kk, Vv) S I8 J4 _ _ (hL2.lr (fun b hb => eb b (by omega) (by omega) (by omega)) ⟨hT8, p2.cg (ej 5 (by omega)) (fun b _ _ => eb b (by omega) (by omega) (by omega)), (ej 13 (by omega)).trans b2, k2.cg (ej 14 (by omega)) (eb 62 (by omega) (by omega) (by omega)), v2.cg (ej 16 (by omega)) (eb 63 (by omega) (by omega) (by omega))⟩ (ej 24 (by omega)) (ej 27 (by omega)) (fun b hb => eb b (by omega) (by omega) (by omega))))
      rw [e4, e7]
      exact q_u2_s _ _ _ _
    · refine p_hasRow_f c1 t4 hx ⟨fun z => absurd rfl z, fun _ => ⟨rfl, hV1, hV2, ?_⟩⟩
      unfold wX8_take
      refine m_isTable m1 hwT ht ⟨fun z => absurd z (by decide), fun _ => ⟨hv, ?_⟩⟩
      rw [ec, (m1.t t4).2]
      exact m_in_f (by omega) hx ⟨fun _ => gwF2 hK hL (by decide), fun z => absurd rfl z⟩
  · refine find_f c1 hwT hx (b_none ⟨rfl, hV1, hV2, ?_⟩)
    unfold wX8_take
    exact m_isTable_f m1 hwT hx ⟨fun _ => gwF2 hK hL (by decide), fun z => absurd rfl z⟩
theorem L_2 {X : QX} (hl : X.2.1.2.1 ≤ 3072) (hi6 : 6 * i + 6 ≤ X.2.1.2.1) (hK : Kw9 K i) (h : LR i Z S I k n) : wL_c2 X K post (nI (6 * i)) S I J k n := by
  have hv : ∀ j : Nat, j < 6 → vp_in (nI (6 * i) + nI j) X.2.1.2.1 := fun j hj => by simp (disch := omega) only [fa_lit, nI_ltI, nI_leI, nI_eq, nI_add, pk_mul, nI_clamp, vp_in_nI, l_uk, l_n1, l_n1e, l_n1e2, l_n1l, l_n1l2, l_n1l3, not_true_eq_false, not_false_eq_true, true_implies, false_implies, true_and, and_true, and_self, forall_eq, bI_t, bI_f, Bool.false_eq_true, or_true, true_or, or_false, false_or, s1_ltx, if_true, if_false, Nat.add_zero, Nat.zero_add,  d_leF, d_leT, d_ltF, d_ltT, d_eqF, d_eqT]
  have hkn := h.kn
  exact ⟨hv 1 (by omega), hv 2 (by omega), hkn.1, hkn.2, b_take ⟨hv 1 (by omega), hv 2 (by omega)⟩ hK h (by omega)⟩
end LC
