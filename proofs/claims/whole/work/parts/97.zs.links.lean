/-! pure: the law's calls: link, view -/
section LC
theorem vq_lt {V : List Q4} {q : Q4} {v : Nat} (h : v < V.length) : vq (V ++ [q]) v = vq V v := by
  unfold vq
  rw [List.getD_eq_getElem?_getD, List.getD_eq_getElem?_getD, List.getElem?_append_left h]
theorem vq_eq {V : List Q4} {q : Q4} : vq (V ++ [q]) V.length = q := by
  unfold vq
  rw [List.getD_eq_getElem?_getD, List.getElem?_append_right (Nat.le_refl _), Nat.sub_self]
  rfl
theorem q4_ap {T : QT} {V : List Q4} {q : Q4} (h : ∀ v, v < V.length → q4W T (vq V v)) (hq : q4W T q) : ∀ v, v < (V ++ [q]).length → q4W T (vq (V ++ [q]) v) := by
  intro v hv
  have e9 : (V ++ [q]).length = V.length + 1 := by rw [List.length_append]; rfl
  by_cases e : v = V.length
  · subst e
    rw [vq_eq]
    exact hq
  · rw [vq_lt (by omega)]
    exact h v (by omega)
variable {K : Int32 → QS → QI → QJ → Nat → Nat → Prop} {post : Int32 → Prop} {i k n : Nat} {Z : Zs} {S : QS} {I : QI} {J : QJ}
theorem p_hcol {T : QT} {t c : Nat} {Q : Int32 → Prop} (hT : Tc I T) (hwT : Tw T) (ht : t < T.1) (hc : c < T.2.1 t) (h : Q 1) : wX4_hasColumn (nI t) (nI c) I Q := by
  obtain ⟨t4, w3, m10, w1⟩ := hwT.l ht
  refine find_t hT hwT ht (b_some ?_)
  unfold wX5_hasColumn
  simp (disch := omega) only [(hT.t t4).1, fa_lit, nI_ltI, nI_leI, nI_eq, nI_add, pk_mul, nI_clamp, vp_in_nI, l_uk, l_n1, l_n1e, l_n1e2, l_n1l, l_n1l2, l_n1l3, not_true_eq_false, not_false_eq_true, true_implies, false_implies, true_and, and_true, and_self, forall_eq, bI_t, bI_f, Bool.false_eq_true, or_true, true_or, or_false, false_or, s1_ltx, if_true, if_false, Nat.add_zero, Nat.zero_add,  d_leF, d_leT, d_ltF, d_ltT, d_eqF, d_eqT]
  exact h
theorem p_hcol_f1 {T : QT} {x y : Int32} {Q : Int32 → Prop} (hT : Tc I T) (hwT : Tw T) (hx : x < 0 ∨ nI T.1 ≤ x) (h : Q 0) : wX4_hasColumn x y I Q := find_f hT hwT hx (b_none h)
theorem p_hcol_f2 {T : QT} {t : Nat} {x : Int32} {Q : Int32 → Prop} (hT : Tc I T) (hwT : Tw T) (ht : t < T.1) (hx : x < 0 ∨ nI (T.2.1 t) ≤ x) (h : Q 0) : wX4_hasColumn (nI t) x I Q := by
  obtain ⟨t4, w3, m10, w1⟩ := hwT.l ht
  refine find_t hT hwT ht (b_some ?_)
  unfold wX5_hasColumn
  rw [(hT.t t4).1]
  exact ⟨fun _ => ⟨fun _ => h, fun z => absurd rfl z⟩, fun e => ⟨fun _ => ⟨fun _ => h, fun z => absurd rfl z⟩, fun e2 => absurd hx (not_or.mpr ⟨e, e2⟩)⟩⟩
theorem p_lap {Kk : List Q4} {t o c d : Nat} {Q : Int32 → QI → Prop} (hK : Kc I Kk) (hl : Kk.length < 6) (h : ∀ I2, Kc I2 (Kk ++ [(t, o, c, d)]) → (∀ b, b < 37 ∨ 42 ≤ b → I2 b = I b) → Q (nI (Kk.length + 1)) I2) : wX1_append (nI t) (nI c) (nI o) (nI d) I Q := by
  have e9 : (Kk ++ [(t, o, c, d)]).length = Kk.length + 1 := by rw [List.length_append]; rfl
  unfold wX1_append
  simp (disch := omega) only [hK.1, q_u2_s, ne_u2, nr_u2, fa_lit, nI_ltI, nI_leI, nI_eq, nI_add, pk_mul, nI_clamp, vp_in_nI, l_uk, l_n1, l_n1e, l_n1e2, l_n1l, l_n1l2, l_n1l3, not_true_eq_false, not_false_eq_true, true_implies, false_implies, true_and, and_true, and_self, forall_eq, bI_t, bI_f, Bool.false_eq_true, or_true, true_or, or_false, false_or, s1_ltx, if_true, if_false, Nat.add_zero, Nat.zero_add,  d_leF, d_leT, d_ltF, d_ltT, d_eqF, d_eqT]
  refine h _ ⟨?_, fun v hv => ?_⟩ (fun b hb => ?_)
  · rw [e9]
    exact q_u2_s _ _ _ _
  · by_cases e : v = Kk.length
    · subst e
      rw [vq_eq]
      simp (disch := omega) only [q_u2_s, ne_u2, nr_u2, fa_lit, nI_ltI, nI_leI, nI_eq, nI_add, pk_mul, nI_clamp, vp_in_nI, l_uk, l_n1, l_n1e, l_n1e2, l_n1l, l_n1l2, l_n1l3, not_true_eq_false, not_false_eq_true, true_implies, false_implies, true_and, and_true, and_self, forall_eq, bI_t, bI_f, Bool.false_eq_true, or_true, true_or, or_false, false_or, s1_ltx, if_true, if_false, Nat.add_zero, Nat.zero_add,  d_leF, d_leT, d_ltF, d_ltT, d_eqF, d_eqT]
    · rw [vq_lt (by omega)]
      simp (disch := omega) only [hK.2 v (by omega), q_u2_s, ne_u2, nr_u2, fa_lit, nI_ltI, nI_leI, nI_eq, nI_add, pk_mul, nI_clamp, vp_in_nI, l_uk, l_n1, l_n1e, l_n1e2, l_n1l, l_n1l2, l_n1l3, not_true_eq_false, not_false_eq_true, true_implies, false_implies, true_and, and_true, and_self, forall_eq, bI_t, bI_f, Bool.false_eq_true, or_true, true_or, or_false, false_or, s1_ltx, if_true, if_false, Nat.add_zero, Nat.zero_add,  d_leF, d_leT, d_ltF, d_ltT, d_eqF, d_eqT]
  · simp (disch := omega) only [q_u2_s, ne_u2, nr_u2, fa_lit, nI_ltI, nI_leI, nI_eq, nI_add, pk_mul, nI_clamp, vp_in_nI, l_uk, l_n1, l_n1e, l_n1e2, l_n1l, l_n1l2, l_n1l3, not_true_eq_false, not_false_eq_true, true_implies, false_implies, true_and, and_true, and_self, forall_eq, bI_t, bI_f, Bool.false_eq_true, or_true, true_or, or_false, false_or, s1_ltx, if_true, if_false, Nat.add_zero, Nat.zero_add,  d_leF, d_leT, d_ltF, d_ltT, d_eqF, d_eqT]
theorem p_vap {Vv : List Q4} {t o c d : Nat} {Q : Int32 → QI → Prop} (hV : Vc I Vv) (hl : Vv.length < 4) (h : ∀ I2, Vc I2 (Vv ++ [(t, o, c, d)]) → (∀ b, b < 46 ∨ 51 ≤ b → I2 b = I b) → Q (nI Vv.length) I2) : wX6_append (nI t) (nI o) (nI c) (nI d) I Q := by
  have e9 : (Vv ++ [(t, o, c, d)]).length = Vv.length + 1 := by rw [List.length_append]; rfl
  unfold wX6_append
  simp (disch := omega) only [hV.1, q_u2_s, ne_u2, nr_u2, fa_lit, nI_ltI, nI_leI, nI_eq, nI_add, pk_mul, nI_clamp, vp_in_nI, l_uk, l_n1, l_n1e, l_n1e2, l_n1l, l_n1l2, l_n1l3, not_true_eq_false, not_false_eq_true, true_implies, false_implies, true_and, and_true, and_self, forall_eq, bI_t, bI_f, Bool.false_eq_true, or_true, true_or, or_false, false_or, s1_ltx, if_true, if_false, Nat.add_zero, Nat.zero_add,  d_leF, d_leT, d_ltF, d_ltT, d_eqF, d_eqT]
  have e8 : nI (Vv.length + 1) - nI 1 = nI Vv.length := by rw [pk_sub (by omega)]; rfl
  rw [e8]
  refine h _ ⟨?_, fun v hv => ?_⟩ (fun b hb => ?_)
  · rw [e9]
    exact q_u2_s _ _ _ _
  · by_cases e : v = Vv.length
    · subst e
      rw [vq_eq]
      simp (disch := omega) only [q_u2_s, ne_u2, nr_u2, fa_lit, nI_ltI, nI_leI, nI_eq, nI_add, pk_mul, nI_clamp, vp_in_nI, l_uk, l_n1, l_n1e, l_n1e2, l_n1l, l_n1l2, l_n1l3, not_true_eq_false, not_false_eq_true, true_implies, false_implies, true_and, and_true, and_self, forall_eq, bI_t, bI_f, Bool.false_eq_true, or_true, true_or, or_false, false_or, s1_ltx, if_true, if_false, Nat.add_zero, Nat.zero_add,  d_leF, d_leT, d_ltF, d_ltT, d_eqF, d_eqT]
    · rw [vq_lt (by omega)]
      simp (disch := omega) only [hV.2 v (by omega), q_u2_s, ne_u2, nr_u2, fa_lit, nI_ltI, nI_leI, nI_eq, nI_add, pk_mul, nI_clamp, vp_in_nI, l_uk, l_n1, l_n1e, l_n1e2, l_n1l, l_n1l2, l_n1l3, not_true_eq_false, not_false_eq_true, true_implies, false_implies, true_and, and_true, and_self, forall_eq, bI_t, bI_f, Bool.false_eq_true, or_true, true_or, or_false, false_or, s1_ltx, if_true, if_false, Nat.add_zero, Nat.zero_add,  d_leF, d_leT, d_ltF, d_ltT, d_eqF, d_eqT]
  · simp (disch := omega) only [q_u2_s, ne_u2, nr_u2, fa_lit, nI_ltI, nI_leI, nI_eq, nI_add, pk_mul, nI_clamp, vp_in_nI, l_uk, l_n1, l_n1e, l_n1e2, l_n1l, l_n1l2, l_n1l3, not_true_eq_false, not_false_eq_true, true_implies, false_implies, true_and, and_true, and_self, forall_eq, bI_t, bI_f, Bool.false_eq_true, or_true, true_or, or_false, false_or, s1_ltx, if_true, if_false, Nat.add_zero, Nat.zero_add,  d_leF, d_leT, d_ltF, d_ltT, d_eqF, d_eqT]
theorem m_lap {Kk : List Q4} {t o c d : Nat} {Q : Int32 → QI → Prop} (hM : Km I Kk) (hl : Kk.length < 6) (h : ∀ I2, Km I2 (Kk ++ [(t, o, c, d)]) → (∀ b, b ≠ 51 → b ≠ 62 → I2 b = I b) → (∀ j, j ≠ 14 → I2 51 j = I 51 j) → Q (nI (Kk.length + 1)) I2) : (vp_in (4 * (I 51 14)) 24 ∧ (∀ I19 : QI, I19 = q_u2 I 62 ((4 * (I 51 14))).toNatClampNeg (nI t) → (vp_in ((4 * (I19 51 14)) + 1) 24 ∧ (∀ I20 : QI, I20 = q_u2 I19 62 (((4 * (I19 51 14)) + 1)).toNatClampNeg (nI c) → (vp_in ((4 * (I20 51 14)) + 2) 24 ∧ (∀ I21 : QI, I21 = q_u2 I20 62 (((4 * (I20 51 14)) + 2)).toNatClampNeg (nI o) → (vp_in ((4 * (I21 51 14)) + 3) 24 ∧ (∀ I22 : QI, I22 = q_u2 I21 62 (((4 * (I21 51 14)) + 3)).toNatClampNeg (nI d) → (∀ I23 : QI, I23 = q_u2 I22 51 14 ((I22 51 14) + 1) → Q (I23 51 14) I23))))))))) := by
  have e9 : (Kk ++ [(t, o, c, d)]).length = Kk.length + 1 := by rw [List.length_append]; rfl
  simp (disch := omega) only [hM.1, q_u2_s, ne_u2, nr_u2, fa_lit, nI_ltI, nI_leI, nI_eq, nI_add, pk_mul, nI_clamp, vp_in_nI, l_uk, l_n1, l_n1e, l_n1e2, l_n1l, l_n1l2, l_n1l3, not_true_eq_false, not_false_eq_true, true_implies, false_implies, true_and, and_true, and_self, forall_eq, bI_t, bI_f, Bool.false_eq_true, or_true, true_or, or_false, false_or, s1_ltx, if_true, if_false, Nat.add_zero, Nat.zero_add,  d_leF, d_leT, d_ltF, d_ltT, d_eqF, d_eqT]
  refine h _ ⟨?_, fun v hv => ?_⟩ (fun b h1 h2 => ?_) (fun j hj => ?_)
  · rw [e9]
    exact q_u2_s _ _ _ _
  · by_cases e : v = Kk.length
    · subst e
      rw [vq_eq]
      simp (disch := omega) only [q_u2_s, ne_u2, nr_u2, fa_lit, nI_ltI, nI_leI, nI_eq, nI_add, pk_mul, nI_clamp, vp_in_nI, l_uk, l_n1, l_n1e, l_n1e2, l_n1l, l_n1l2, l_n1l3, not_true_eq_false, not_false_eq_true, true_implies, false_implies, true_and, and_true, and_self, forall_eq, bI_t, bI_f, Bool.false_eq_true, or_true, true_or, or_false, false_or, s1_ltx, if_true, if_false, Nat.add_zero, Nat.zero_add,  d_leF, d_leT, d_ltF, d_ltT, d_eqF, d_eqT]
    · rw [vq_lt (by omega)]
      simp (disch := omega) only [hM.2 v (by omega), q_u2_s, ne_u2, nr_u2, fa_lit, nI_ltI, nI_leI, nI_eq, nI_add, pk_mul, nI_clamp, vp_in_nI, l_uk, l_n1, l_n1e, l_n1e2, l_n1l, l_n1l2, l_n1l3, not_true_eq_false, not_false_eq_true, true_implies, false_implies, true_and, and_true, and_self, forall_eq, bI_t, bI_f, Bool.false_eq_true, or_true, true_or, or_false, false_or, s1_ltx, if_true, if_false, Nat.add_zero, Nat.zero_add,  d_leF, d_leT, d_ltF, d_ltT, d_eqF, d_eqT]
  · simp (disch := omega) only [q_u2_s, ne_u2, nr_u2, fa_lit, nI_ltI, nI_leI, nI_eq, nI_add, pk_mul, nI_clamp, vp_in_nI, l_uk, l_n1, l_n1e, l_n1e2, l_n1l, l_n1l2, l_n1l3, not_true_eq_false, not_false_eq_true, true_implies, false_implies, true_and, and_true, and_self, forall_eq, bI_t, bI_f, Bool.false_eq_true, or_true, true_or, or_false, false_or, s1_ltx, if_true, if_false, Nat.add_zero, Nat.zero_add,  d_leF, d_leT, d_ltF, d_ltT, d_eqF, d_eqT]
  · rw [q_u2_j _ _ _ hj]
    simp (disch := omega) only [q_u2_s, ne_u2, nr_u2, fa_lit, nI_ltI, nI_leI, nI_eq, nI_add, pk_mul, nI_clamp, vp_in_nI, l_uk, l_n1, l_n1e, l_n1e2, l_n1l, l_n1l2, l_n1l3, not_true_eq_false, not_false_eq_true, true_implies, false_implies, true_and, and_true, and_self, forall_eq, bI_t, bI_f, Bool.false_eq_true, or_true, true_or, or_false, false_or, s1_ltx, if_true, if_false, Nat.add_zero, Nat.zero_add,  d_leF, d_leT, d_ltF, d_ltT, d_eqF, d_eqT]
theorem m_vap {Vv : List Q4} {t o c d : Nat} {Q : Int32 → QI → Prop} (hM : Vm I Vv) (hl : Vv.length < 4) (h : ∀ I2, Vm I2 (Vv ++ [(t, o, c, d)]) → (∀ b, b ≠ 51 → b ≠ 63 → I2 b = I b) → (∀ j, j ≠ 16 → I2 51 j = I 51 j) → Q (nI Vv.length) I2) : (vp_in (4 * (I 51 16)) 16 ∧ (∀ I19 : QI, I19 = q_u2 I 63 ((4 * (I 51 16))).toNatClampNeg (nI t) → (vp_in ((4 * (I19 51 16)) + 1) 16 ∧ (∀ I20 : QI, I20 = q_u2 I19 63 (((4 * (I19 51 16)) + 1)).toNatClampNeg (nI c) → (vp_in ((4 * (I20 51 16)) + 2) 16 ∧ (∀ I21 : QI, I21 = q_u2 I20 63 (((4 * (I20 51 16)) + 2)).toNatClampNeg (nI o) → (vp_in ((4 * (I21 51 16)) + 3) 16 ∧ (∀ I22 : QI, I22 = q_u2 I21 63 (((4 * (I21 51 16)) + 3)).toNatClampNeg (nI d) → (∀ I23 : QI, I23 = q_u2 I22 51 16 ((I22 51 16) + 1) → Q ((I23 51 16) - 1) I23))))))))) := by
  have e9 : (Vv ++ [(t, o, c, d)]).length = Vv.length + 1 := by rw [List.length_append]; rfl
  simp (disch := omega) only [hM.1, q_u2_s, ne_u2, nr_u2, fa_lit, nI_ltI, nI_leI, nI_eq, nI_add, pk_mul, nI_clamp, vp_in_nI, l_uk, l_n1, l_n1e, l_n1e2, l_n1l, l_n1l2, l_n1l3, not_true_eq_false, not_false_eq_true, true_implies, false_implies, true_and, and_true, and_self, forall_eq, bI_t, bI_f, Bool.false_eq_true, or_true, true_or, or_false, false_or, s1_ltx, if_true, if_false, Nat.add_zero, Nat.zero_add,  d_leF, d_leT, d_ltF, d_ltT, d_eqF, d_eqT]
  have e8 : nI (Vv.length + 1) - nI 1 = nI Vv.length := by rw [pk_sub (by omega)]; rfl
  rw [e8]
  refine h _ ⟨?_, fun v hv => ?_⟩ (fun b h1 h2 => ?_) (fun j hj => ?_)
  · rw [e9]
    exact q_u2_s _ _ _ _
  · by_cases e : v = Vv.length
    · subst e
      rw [vq_eq]
      simp (disch := omega) only [q_u2_s, ne_u2, nr_u2, fa_lit, nI_ltI, nI_leI, nI_eq, nI_add, pk_mul, nI_clamp, vp_in_nI, l_uk, l_n1, l_n1e, l_n1e2, l_n1l, l_n1l2, l_n1l3, not_true_eq_false, not_false_eq_true, true_implies, false_implies, true_and, and_true, and_self, forall_eq, bI_t, bI_f, Bool.false_eq_true, or_true, true_or, or_false, false_or, s1_ltx, if_true, if_false, Nat.add_zero, Nat.zero_add,  d_leF, d_leT, d_ltF, d_ltT, d_eqF, d_eqT]
    · rw [vq_lt (by omega)]
      simp (disch := omega) only [hM.2 v (by omega), q_u2_s, ne_u2, nr_u2, fa_lit, nI_ltI, nI_leI, nI_eq, nI_add, pk_mul, nI_clamp, vp_in_nI, l_uk, l_n1, l_n1e, l_n1e2, l_n1l, l_n1l2, l_n1l3, not_true_eq_false, not_false_eq_true, true_implies, false_implies, true_and, and_true, and_self, forall_eq, bI_t, bI_f, Bool.false_eq_true, or_true, true_or, or_false, false_or, s1_ltx, if_true, if_false, Nat.add_zero, Nat.zero_add,  d_leF, d_leT, d_ltF, d_ltT, d_eqF, d_eqT]
  · simp (disch := omega) only [q_u2_s, ne_u2, nr_u2, fa_lit, nI_ltI, nI_leI, nI_eq, nI_add, pk_mul, nI_clamp, vp_in_nI, l_uk, l_n1, l_n1e, l_n1e2, l_n1l, l_n1l2, l_n1l3, not_true_eq_false, not_false_eq_true, true_implies, false_implies, true_and, and_true, and_self, forall_eq, bI_t, bI_f, Bool.false_eq_true, or_true, true_or, or_false, false_or, s1_ltx, if_true, if_false, Nat.add_zero, Nat.zero_add,  d_leF, d_leT, d_ltF, d_ltT, d_eqF, d_eqT]
  · rw [q_u2_j _ _ _ hj]
    simp (disch := omega) only [q_u2_s, ne_u2, nr_u2, fa_lit, nI_ltI, nI_leI, nI_eq, nI_add, pk_mul, nI_clamp, vp_in_nI, l_uk, l_n1, l_n1e, l_n1e2, l_n1l, l_n1l2, l_n1l3, not_true_eq_false, not_false_eq_true, true_implies, false_implies, true_and, and_true, and_self, forall_eq, bI_t, bI_f, Bool.false_eq_true, or_true, true_or, or_false, false_or, s1_ltx, if_true, if_false, Nat.add_zero, Nat.zero_add,  d_leF, d_leT, d_ltF, d_ltT, d_eqF, d_eqT]
theorem Km.w {V : List Q4} {x : Int32} (h : Km I V) : Km (q_u2 I 51 0 x) V := h.cg (q_u2_j _ _ _ (by omega)) (nr_u2 (by omega))
theorem b_link {V1 V2 V3 V4 : Prop} {a1 a2 a3 a4 : Int32} (hV : V1 ∧ V2 ∧ V3 ∧ V4) (hK : Kw9 K i) (h : LR i Z S I k n) (hi : i < 512) : wL_link a1 a2 a3 a4 I J (fun r1 I2 J3 => V1 ∧ (V2 ∧ (V3 ∧ (V4 ∧ wX8_link a1 a2 a3 a4 I2 (fun r5 I4 => fin9 K post (nI (6 * i)) S I4 J3 (k + 1) (n + 6) r1 r5))))) := by
  have hL := h.nc hi
  obtain ⟨T, P, bu, Kk, Vv⟩ := Z
  obtain ⟨hwT, hwP, hd, hbu, hwK, hwV⟩ := h.2.1
  obtain ⟨c1, c2, ⟨ch, c0, c3⟩, c4, c5, c6⟩ := h.2.2.1
  obtain ⟨m1, m2, m3, m4, m5⟩ := h.2.2.2.1
  obtain ⟨hV1, hV2, hV3, hV4⟩ := hV
  replace hwT : Tw T := hwT
  replace c1 : Tc I T := c1
  replace m1 : Tm I T := m1
  replace hwK : Kw T Kk := hwK
  replace c5 : Kc I Kk := c5
  replace m4 : Km I Kk := m4
  have t4 := hwT.1
  have l6 := hwK.1
  unfold wL_link wX7_link
  have M1 : (∀ Q : Int32 → Prop, Q 0 → wX8_isColumn a1 a2 I Q) → wX8_link a1 a2 a3 a4 I (fun r5 I4 => fin9 K post (nI (6 * i)) S I4 J (k + 1) (n + 6) 1 r5) := by
    intro hn
    unfold wX8_link
    exact hn _ ⟨fun _ => gwF2 hK hL (by decide), fun z => absurd rfl z⟩
  rcases ixc a1 T.1 (by omega) with ⟨t, ht, rfl⟩ | hx
  · obtain ⟨t4, w3, m10, w1⟩ := hwT.l ht
    rcases ixc a2 (T.2.1 t) (by omega) with ⟨c, hc, rfl⟩ | hx
    · refine p_hcol c1 hwT ht hc ⟨fun z => absurd z (by decide), fun _ => ?_⟩
      have M2 : (∀ Q : Int32 → Prop, Q 0 → wX8_isColumn a3 a4 I Q) → wX8_link (nI t) (nI c) a3 a4 I (fun r5 I4 => fin9 K post (nI (6 * i)) S I4 J (k + 1) (n + 6) 1 r5) := by
        intro hn
        unfold wX8_link
        exact m_isColumn m1 hwT ht hc ⟨fun z => absurd z (by decide), fun _ => hn _ ⟨fun _ => gwF2 hK hL (by decide), fun z => absurd rfl z⟩⟩
      rcases ixc a3 T.1 (by omega) with ⟨o, ho, rfl⟩ | hx
      · obtain ⟨o4, v3, n10, v1⟩ := hwT.l ho
        rcases ixc a4 (T.2.1 o) (by omega) with ⟨d, hdl, rfl⟩ | hx
        · refine p_hcol c1 hwT ho hdl ⟨fun _ => ⟨fun hne => ?_, fun heq => Or.inr (Or.inl ⟨rfl, hV1, hV2, hV3, hV4, ?_⟩)⟩, fun z => absurd z (by decide)⟩
          · unfold wX1_isFull
            rw [c5.1]
            have e6 : (nI Kk.length < (6 : Int32)) = (Kk.length < 6) := by
              show (nI Kk.length < nI 6) = _
              rw [nI_ltI (by omega) (by omega)]
            rw [e6]
            refine ⟨fun hlt => ⟨fun _ => ?_, fun z => absurd rfl z⟩, fun hge => ⟨fun z => absurd z (by decide), fun _ => Or.inr (Or.inr ⟨rfl, hV1, hV2, hV3, hV4, ?_⟩)⟩⟩
            · refine p_lap c5 hlt (fun I2 hK2 hF => ⟨by simp (disch := omega) only [fa_lit, nI_ltI, nI_leI, nI_eq, nI_add, pk_mul, nI_clamp, vp_in_nI, l_uk, l_n1, l_n1e, l_n1e2, l_n1l, l_n1l2, l_n1l3, not_true_eq_false, not_false_eq_true, true_implies, false_implies, true_and, and_true, and_self, forall_eq, bI_t, bI_f, Bool.false_eq_true, or_true, true_or, or_false, false_or, s1_ltx, if_true, if_false, Nat.add_zero, Nat.zero_add,  d_leF, d_leT, d_ltF, d_ltT, d_eqF, d_eqT], fun J4 e4 => ⟨hV1, hV2, hV3, hV4, ?_⟩⟩)
              have hq : q4W T (t, o, c, d) := ⟨ht, ho, hc, hdl⟩
              have hw2 : Rw (T, P, bu, Kk ++ [(t, o, c, d)], Vv) := ⟨hwT, hwP, hd, hbu, ⟨by rw [List.length_append]; exact hlt, q4_ap hwK.2 hq⟩, hwV⟩
              have hRc2 : Rc I2 (T, P, bu, Kk ++ [(t, o, c, d)], Vv) (i + 1) := ⟨c1.cg (fun b hb => hF b (by omega)), c2.cg (fun b h1 h2 => hF b (by omega)), ⟨ch, by omega, c3.cg hwP (by rw [hF 1 (by omega)]) (fun b h1 h2 => hF b (by omega))⟩, by rw [hF 0 (by omega)]; exact c4, hK2, c6.cg (fun b h1 h2 => hF b (by omega))⟩
              have hL2 := h.lc hi hw2 hRc2 (fun b hb => hF b (by omega))
              obtain ⟨t2, p2, b2, k2, v2⟩ := hL2.2.2.2.2.1
              replace t2 : Tm I2 T := t2
              replace k2 : Km I2 Kk := k2
              unfold wX8_link
              refine m_isColumn t2 hwT ht hc ⟨fun z => absurd z (by decide), fun _ => m_isColumn t2 hwT ho hdl ⟨fun z => absurd z (by decide), fun _ => ⟨fun _ => ⟨fun _ => gwT2 (m_lap (Q := fun r5 I4 => fin9 K post (nI (6 * i)) S I4 J4 (k + 1) (n + 6) 0 r5) k2.w hlt (fun I5 hK5 hF5 hj5 => ?_)), fun z => ?_⟩, fun z => absurd z hne⟩⟩⟩
              · have eb : ∀ b, b ≠ 51 → b ≠ 62 → I5 b = I2 b := fun b h1 h2 => by rw [hF5 b h1 h2, nr_u2 h1]
                have ej : ∀ j, j ≠ 0 → j ≠ 14 → I5 51 j = I2 51 j := fun j h1 h2 => by rw [hj5 j h2, q_u2_j _ _ _ h1]
                refine m_fin9 hi (by rw [hj5 0 (by omega)]; exact q_u2_s _ _ _ _) (fun _ => ?_) (hK (T, P, bu, Kk ++ [(t, o, c, d)], Vv) S I5 J4 _ _ (hL2.lr (fun b hb => eb b (by omega) (by omega)) ⟨t2.cg (ej 1 (by omega) (by omega)) (fun b _ _ => eb b (by omega) (by omega)), p2.cg (ej 5 (by omega) (by omega)) (fun b _ _ => eb b (by omega) (by omega)), (ej 13 (by omega) (by omega)).trans b2, hK5, v2.cg (ej 16 (by omega) (by omega)) (eb 63 (by omega) (by omega))⟩ (ej 24 (by omega) (by omega)) (ej 27 (by omega) (by omega)) (fun b hb => eb b (by omega) (by omega))))
                rw [e4]
                exact q_u2_s _ _ _ _
              · rw [k2.1] at z
                replace z : nI Kk.length = nI 6 := z
                rw [nI_eq (by omega) (by omega)] at z
                omega
            · unfold wX8_link
              refine m_isColumn m1 hwT ht hc ⟨fun z => absurd z (by decide), fun _ => m_isColumn m1 hwT ho hdl ⟨fun z => absurd z (by decide), fun _ => ⟨fun _ => ⟨fun z => absurd ?_ z, fun _ => gwF2 hK hL (by decide)⟩, fun z => absurd z hne⟩⟩⟩
              have e9 : Kk.length = 6 := by omega
              rw [m4.1, e9]
              rfl
          · unfold wX8_link
            exact m_isColumn m1 hwT ht hc ⟨fun z => absurd z (by decide), fun _ => m_isColumn m1 hwT ho hdl ⟨fun z => absurd z (by decide), fun _ => ⟨fun z => absurd heq z, fun _ => gwF2 hK hL (by decide)⟩⟩⟩
        · exact p_hcol_f2 c1 hwT ho hx ⟨fun z => absurd rfl z, fun _ => Or.inl ⟨rfl, hV1, hV2, hV3, hV4, M2 (fun Q hQ => m_isColumn_f2 m1 hwT ho hx hQ)⟩⟩
      · exact p_hcol_f1 c1 hwT hx ⟨fun z => absurd rfl z, fun _ => Or.inl ⟨rfl, hV1, hV2, hV3, hV4, M2 (fun Q hQ => m_isColumn_f1 m1 hwT hx hQ)⟩⟩
    · exact p_hcol_f2 c1 hwT ht hx ⟨fun _ => Or.inl ⟨rfl, hV1, hV2, hV3, hV4, M1 (fun Q hQ => m_isColumn_f2 m1 hwT ht hx hQ)⟩, fun z => absurd rfl z⟩
  · exact p_hcol_f1 c1 hwT hx ⟨fun _ => Or.inl ⟨rfl, hV1, hV2, hV3, hV4, M1 (fun Q hQ => m_isColumn_f1 m1 hwT hx hQ)⟩, fun z => absurd rfl z⟩
theorem b_view {V1 V2 V3 V4 : Prop} {a1 a2 a3 a4 : Int32} (hV : V1 ∧ V2 ∧ V3 ∧ V4) (hK : Kw9 K i) (h : LR i Z S I k n) (hi : i < 512) : wL_view a1 a2 a3 a4 I J (fun r1 I2 J3 => V1 ∧ (V2 ∧ (V3 ∧ (V4 ∧ wX8_view a1 a2 a3 a4 I2 (fun r5 I4 => fin9 K post (nI (6 * i)) S I4 J3 (k + 1) (n + 6) r1 r5))))) := by
  have hL := h.nc hi
  obtain ⟨T, P, bu, Kk, Vv⟩ := Z
  obtain ⟨hwT, hwP, hd, hbu, hwK, hwV⟩ := h.2.1
  obtain ⟨c1, c2, ⟨ch, c0, c3⟩, c4, c5, c6⟩ := h.2.2.1
  obtain ⟨m1, m2, m3, m4, m5⟩ := h.2.2.2.1
  obtain ⟨hV1, hV2, hV3, hV4⟩ := hV
  replace hwT : Tw T := hwT
  replace c1 : Tc I T := c1
  replace m1 : Tm I T := m1
  replace hwV : Vw T Vv := hwV
  replace c6 : Vc I Vv := c6
  replace m5 : Vm I Vv := m5
  have t4 := hwT.1
  have l4 := hwV.1
  unfold wL_view wX7_view
  have M1 : (∀ Q : Int32 → Prop, Q 0 → wX8_isColumn a1 a3 I Q) → wX8_view a1 a2 a3 a4 I (fun r5 I4 => fin9 K post (nI (6 * i)) S I4 J (k + 1) (n + 6) 1 r5) := by
    intro hn
    unfold wX8_view
    exact hn _ ⟨fun _ => gwF2 hK hL (by decide), fun z => absurd rfl z⟩
  rcases ixc a1 T.1 (by omega) with ⟨t, ht, rfl⟩ | hx
  · obtain ⟨t4, w3, m10, w1⟩ := hwT.l ht
    rcases ixc a3 (T.2.1 t) (by omega) with ⟨c, hc, rfl⟩ | hx
    · refine p_hcol c1 hwT ht hc ⟨fun z => absurd z (by decide), fun _ => ?_⟩
      have M2 : (∀ Q : Int32 → Prop, Q 0 → wX8_isColumn a2 a4 I Q) → wX8_view (nI t) a2 (nI c) a4 I (fun r5 I4 => fin9 K post (nI (6 * i)) S I4 J (k + 1) (n + 6) 1 r5) := by
        intro hn
        unfold wX8_view
        exact m_isColumn m1 hwT ht hc ⟨fun z => absurd z (by decide), fun _ => hn _ ⟨fun _ => gwF2 hK hL (by decide), fun z => absurd rfl z⟩⟩
      rcases ixc a2 T.1 (by omega) with ⟨o, ho, rfl⟩ | hx
      · obtain ⟨o4, v3, n10, v1⟩ := hwT.l ho
        rcases ixc a4 (T.2.1 o) (by omega) with ⟨d, hdl, rfl⟩ | hx
        · refine p_hcol c1 hwT ho hdl ⟨fun _ => ⟨fun hne => ?_, fun heq => Or.inr (Or.inl ⟨rfl, hV1, hV2, hV3, hV4, ?_⟩)⟩, fun z => absurd z (by decide)⟩
          · by_cases hlt : Vv.length < 4
            · refine p_vap c6 hlt (fun I2 hK2 hF => ⟨fun _ => ⟨by simp (disch := omega) only [fa_lit, nI_ltI, nI_leI, nI_eq, nI_add, pk_mul, nI_clamp, vp_in_nI, l_uk, l_n1, l_n1e, l_n1e2, l_n1l, l_n1l2, l_n1l3, not_true_eq_false, not_false_eq_true, true_implies, false_implies, true_and, and_true, and_self, forall_eq, bI_t, bI_f, Bool.false_eq_true, or_true, true_or, or_false, false_or, s1_ltx, if_true, if_false, Nat.add_zero, Nat.zero_add,  d_leF, d_leT, d_ltF, d_ltT, d_eqF, d_eqT], fun J4 e4 => ⟨hV1, hV2, hV3, hV4, ?_⟩⟩, fun z => absurd z (by show ¬ nI Vv.length = N1; simp (disch := omega) only [fa_lit, nI_ltI, nI_leI, nI_eq, nI_add, pk_mul, nI_clamp, vp_in_nI, l_uk, l_n1, l_n1e, l_n1e2, l_n1l, l_n1l2, l_n1l3, not_true_eq_false, not_false_eq_true, true_implies, false_implies, true_and, and_true, and_self, forall_eq, bI_t, bI_f, Bool.false_eq_true, or_true, true_or, or_false, false_or, s1_ltx, if_true, if_false, Nat.add_zero, Nat.zero_add,  d_leF, d_leT, d_ltF, d_ltT, d_eqF, d_eqT])⟩)
              have hq : q4W T (t, o, c, d) := ⟨ht, ho, hc, hdl⟩
              have hw2 : Rw (T, P, bu, Kk, Vv ++ [(t, o, c, d)]) := ⟨hwT, hwP, hd, hbu, hwK, ⟨by rw [List.length_append]; exact hlt, q4_ap hwV.2 hq⟩⟩
              have hRc2 : Rc I2 (T, P, bu, Kk, Vv ++ [(t, o, c, d)]) (i + 1) := ⟨c1.cg (fun b hb => hF b (by omega)), c2.cg (fun b h1 h2 => hF b (by omega)), ⟨ch, by omega, c3.cg hwP (by rw [hF 1 (by omega)]) (fun b h1 h2 => hF b (by omega))⟩, by rw [hF 0 (by omega)]; exact c4, c5.cg (fun b h1 h2 => hF b (by omega)), hK2⟩
              have hL2 := h.lc hi hw2 hRc2 (fun b hb => hF b (by omega))
              obtain ⟨t2, p2, b2, k2, v2⟩ := hL2.2.2.2.2.1
              replace t2 : Tm I2 T := t2
              replace v2 : Vm I2 Vv := v2
              unfold wX8_view
              refine m_isColumn t2 hwT ht hc ⟨fun z => absurd z (by decide), fun _ => m_isColumn t2 hwT ho hdl ⟨fun z => absurd z (by decide), fun _ => ⟨fun _ => ⟨fun _ => gwT2 (m_vap (Q := fun r5 I4 => fin9 K post (nI (6 * i)) S I4 J4 (k + 1) (n + 6) 0 r5) v2.w hlt (fun I5 hK5 hF5 hj5 => ?_)), fun z => ?_⟩, fun z => absurd z hne⟩⟩⟩
              · have eb : ∀ b, b ≠ 51 → b ≠ 63 → I5 b = I2 b := fun b h1 h2 => by rw [hF5 b h1 h2, nr_u2 h1]
                have ej : ∀ j, j ≠ 0 → j ≠ 16 → I5 51 j = I2 51 j := fun j h1 h2 => by rw [hj5 j h2, q_u2_j _ _ _ h1]
                refine m_fin9 hi (by rw [hj5 0 (by omega)]; exact q_u2_s _ _ _ _) (fun _ => ?_) (hK (T, P, bu, Kk, Vv ++ [(t, o, c, d)]) S I5 J4 _ _ (hL2.lr (fun b hb => eb b (by omega) (by omega)) ⟨t2.cg (ej 1 (by omega) (by omega)) (fun b _ _ => eb b (by omega) (by omega)), p2.cg (ej 5 (by omega) (by omega)) (fun b _ _ => eb b (by omega) (by omega)), (ej 13 (by omega) (by omega)).trans b2, k2.cg (ej 14 (by omega) (by omega)) (eb 62 (by omega) (by omega)), hK5⟩ (ej 24 (by omega) (by omega)) (ej 27 (by omega) (by omega)) (fun b hb => eb b (by omega) (by omega))))
                rw [e4]
                exact q_u2_s _ _ _ _
              · rw [v2.1] at z
                replace z : nI Vv.length = nI 4 := z
                rw [nI_eq (by omega) (by omega)] at z
                omega
            · have e9 : Vv.length = 4 := by omega
              unfold wX6_append
              rw [c6.1, e9]
              refine ⟨fun z => absurd z (by decide), fun _ => ⟨fun z => absurd rfl z, fun _ => Or.inr (Or.inr ⟨rfl, hV1, hV2, hV3, hV4, ?_⟩)⟩⟩
              unfold wX8_view
              refine m_isColumn m1 hwT ht hc ⟨fun z => absurd z (by decide), fun _ => m_isColumn m1 hwT ho hdl ⟨fun z => absurd z (by decide), fun _ => ⟨fun _ => ⟨fun z => absurd ?_ z, fun _ => gwF2 hK hL (by decide)⟩, fun z => absurd z hne⟩⟩⟩
              rw [m5.1, e9]
              rfl
          · unfold wX8_view
            exact m_isColumn m1 hwT ht hc ⟨fun z => absurd z (by decide), fun _ => m_isColumn m1 hwT ho hdl ⟨fun z => absurd z (by decide), fun _ => ⟨fun z => absurd heq z, fun _ => gwF2 hK hL (by decide)⟩⟩⟩
        · exact p_hcol_f2 c1 hwT ho hx ⟨fun z => absurd rfl z, fun _ => Or.inl ⟨rfl, hV1, hV2, hV3, hV4, M2 (fun Q hQ => m_isColumn_f2 m1 hwT ho hx hQ)⟩⟩
      · exact p_hcol_f1 c1 hwT hx ⟨fun z => absurd rfl z, fun _ => Or.inl ⟨rfl, hV1, hV2, hV3, hV4, M2 (fun Q hQ => m_isColumn_f1 m1 hwT hx hQ)⟩⟩
    · exact p_hcol_f2 c1 hwT ht hx ⟨fun _ => Or.inl ⟨rfl, hV1, hV2, hV3, hV4, M1 (fun Q hQ => m_isColumn_f2 m1 hwT ht hx hQ)⟩, fun z => absurd rfl z⟩
  · exact p_hcol_f1 c1 hwT hx ⟨fun _ => Or.inl ⟨rfl, hV1, hV2, hV3, hV4, M1 (fun Q hQ => m_isColumn_f1 m1 hwT hx hQ)⟩, fun z => absurd rfl z⟩
theorem L_15 {X : QX} (hl : X.2.1.2.1 ≤ 3072) (hi6 : 6 * i + 6 ≤ X.2.1.2.1) (hK : Kw9 K i) (h : LR i Z S I k n) : wL_c15 X K post (nI (6 * i)) S I J k n := by
  have hv : ∀ j : Nat, j < 6 → vp_in (nI (6 * i) + nI j) X.2.1.2.1 := fun j hj => by simp (disch := omega) only [fa_lit, nI_ltI, nI_leI, nI_eq, nI_add, pk_mul, nI_clamp, vp_in_nI, l_uk, l_n1, l_n1e, l_n1e2, l_n1l, l_n1l2, l_n1l3, not_true_eq_false, not_false_eq_true, true_implies, false_implies, true_and, and_true, and_self, forall_eq, bI_t, bI_f, Bool.false_eq_true, or_true, true_or, or_false, false_or, s1_ltx, if_true, if_false, Nat.add_zero, Nat.zero_add,  d_leF, d_leT, d_ltF, d_ltT, d_eqF, d_eqT]
  have hkn := h.kn
  exact ⟨hv 1 (by omega), hv 2 (by omega), hv 3 (by omega), hv 4 (by omega), hkn.1, hkn.2, b_link ⟨hv 1 (by omega), hv 2 (by omega), hv 3 (by omega), hv 4 (by omega)⟩ hK h (by omega)⟩
theorem L_19 {X : QX} (hl : X.2.1.2.1 ≤ 3072) (hi6 : 6 * i + 6 ≤ X.2.1.2.1) (hK : Kw9 K i) (h : LR i Z S I k n) : wL_c19 X K post (nI (6 * i)) S I J k n := by
  have hv : ∀ j : Nat, j < 6 → vp_in (nI (6 * i) + nI j) X.2.1.2.1 := fun j hj => by simp (disch := omega) only [fa_lit, nI_ltI, nI_leI, nI_eq, nI_add, pk_mul, nI_clamp, vp_in_nI, l_uk, l_n1, l_n1e, l_n1e2, l_n1l, l_n1l2, l_n1l3, not_true_eq_false, not_false_eq_true, true_implies, false_implies, true_and, and_true, and_self, forall_eq, bI_t, bI_f, Bool.false_eq_true, or_true, true_or, or_false, false_or, s1_ltx, if_true, if_false, Nat.add_zero, Nat.zero_add,  d_leF, d_leT, d_ltF, d_ltT, d_eqF, d_eqT]
  have hkn := h.kn
  exact ⟨hv 1 (by omega), hv 2 (by omega), hv 3 (by omega), hv 4 (by omega), hkn.1, hkn.2, b_view ⟨hv 1 (by omega), hv 2 (by omega), hv 3 (by omega), hv 4 (by omega)⟩ hK h (by omega)⟩
end LC
