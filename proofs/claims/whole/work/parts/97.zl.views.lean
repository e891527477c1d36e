/-! pure: the law's calls: different, often, ways -/
section LC
variable {K : Int32 → QS → QI → QJ → Nat → Nat → Prop} {post : Int32 → Prop} {i k n : Nat} {Z : Zs} {S : QS} {I : QI} {J : QJ}
theorem m_in {j m : Nat} {Q : Int32 → Prop} (hj : j < m) (hm : m < 2 ^ 30) (h : Q 1) : wX8_in (nI j) 0 (nI m - 1) I Q := by
  unfold wX8_in
  simp (disch := omega) only [fa_lit, nI_ltI, nI_leI, nI_eq, nI_add, pk_mul, nI_clamp, vp_in_nI, l_uk, l_n1, l_n1e, l_n1e2, l_n1l, l_n1l2, l_n1l3, not_true_eq_false, not_false_eq_true, true_implies, false_implies, true_and, and_true, and_self, forall_eq, bI_t, bI_f, Bool.false_eq_true, or_true, true_or, or_false, false_or, s1_ltx, if_true, if_false, Nat.add_zero, Nat.zero_add,  d_leF, d_leT, d_ltF, d_ltT, d_eqF, d_eqT]
  exact h
theorem m_in_f {m : Nat} {x : Int32} {Q : Int32 → Prop} (hm : m < 2 ^ 30) (hx : x < 0 ∨ nI m ≤ x) (h : Q 0) : wX8_in x 0 (nI m - 1) I Q := by
  unfold wX8_in
  simp (disch := omega) only [fa_lit, nI_ltI, nI_leI, nI_eq, nI_add, pk_mul, nI_clamp, vp_in_nI, l_uk, l_n1, l_n1e, l_n1e2, l_n1l, l_n1l2, l_n1l3, not_true_eq_false, not_false_eq_true, true_implies, false_implies, true_and, and_true, and_self, forall_eq, bI_t, bI_f, Bool.false_eq_true, or_true, true_or, or_false, false_or, s1_ltx, if_true, if_false, Nat.add_zero, Nat.zero_add,  d_leF, d_leT, d_ltF, d_ltT, d_eqF, d_eqT]
  refine ⟨fun _ => h, fun e => ⟨fun _ => h, fun e2 => ?_⟩⟩
  exact absurd hx (not_or.mpr ⟨e, e2⟩)
theorem p_hasRow {T : QT} {t r : Nat} {Q : Int32 → Prop} (hT : Tc I T) (hw : Tw T) (ht : t < 4) (hr : r < T.2.2.1 t) (h : Q 1) : wX5_hasRow t (nI r) I Q := by
  have := (hw.2 t ht).2.1
  unfold wX5_hasRow
  simp (disch := omega) only [(hT.t ht).2, fa_lit, nI_ltI, nI_leI, nI_eq, nI_add, pk_mul, nI_clamp, vp_in_nI, l_uk, l_n1, l_n1e, l_n1e2, l_n1l, l_n1l2, l_n1l3, not_true_eq_false, not_false_eq_true, true_implies, false_implies, true_and, and_true, and_self, forall_eq, bI_t, bI_f, Bool.false_eq_true, or_true, true_or, or_false, false_or, s1_ltx, if_true, if_false, Nat.add_zero, Nat.zero_add,  d_leF, d_leT, d_ltF, d_ltT, d_eqF, d_eqT]
  exact h
theorem p_hasRow_f {T : QT} {t : Nat} {x : Int32} {Q : Int32 → Prop} (hT : Tc I T) (ht : t < 4) (hx : x < 0 ∨ nI (T.2.2.1 t) ≤ x) (h : Q 0) : wX5_hasRow t x I Q := by
  unfold wX5_hasRow
  rw [(hT.t ht).2]
  exact ⟨fun _ => h, fun e => ⟨fun _ => h, fun e2 => absurd hx (not_or.mpr ⟨e, e2⟩)⟩⟩
theorem Tm.w {T : QT} {x : Int32} (h : Tm I T) : Tm (q_u2 I 51 0 x) T := h.cg (q_u2_j _ _ _ (by omega)) (fun b h1 h2 => nr_u2 (by omega))
theorem Vm.w {V : List Q4} {x : Int32} (h : Vm I V) : Vm (q_u2 I 51 0 x) V := h.cg (q_u2_j _ _ _ (by omega)) (nr_u2 (by omega))
theorem b_different {V : Prop} {a : Int32} (hV : V) (hK : Kw9 K i) (h : LR i Z S I k n) (hi : i < 512) : wL_different a I J (fun r1 J3 => V ∧ wX8_different a I (fun r5 I4 => fin9 K post (nI (6 * i)) S I4 J3 (k + 1) (n + 6) r1 r5)) := by
  have hL := h.nc hi
  obtain ⟨T, P, bu, Kk, Vv⟩ := Z
  obtain ⟨hwT, hwP, hd, hbu, hwK, hwV⟩ := h.2.1
  obtain ⟨c1, c2, c3, c4, c5, c6⟩ := h.2.2.1
  obtain ⟨m1, m2, m3, m4, m5⟩ := h.2.2.2.1
  replace hwT : Tw T := hwT
  replace hwV : Vw T Vv := hwV
  replace m5 : Vm I Vv := m5
  replace c6 : Vc I Vv := c6
  have l4 := hwV.1
  unfold wL_different wX7_different wX8_different
  rw [m5.1]
  rcases ixc a Vv.length (by omega) with ⟨v, hv, rfl⟩ | hx
  · have hV2 : Vm (q_u2 I 51 0 0) Vv := m5.w
    obtain ⟨q1, q2, q3, q4⟩ := hV2.2 v hv
    have x0 : ((4 : Int32) * nI v).toNatClampNeg = 4 * v := by simp (disch := omega) only [fa_lit, nI_ltI, nI_leI, nI_eq, nI_add, pk_mul, nI_clamp, vp_in_nI, l_uk, l_n1, l_n1e, l_n1e2, l_n1l, l_n1l2, l_n1l3, not_true_eq_false, not_false_eq_true, true_implies, false_implies, true_and, and_true, and_self, forall_eq, bI_t, bI_f, Bool.false_eq_true, or_true, true_or, or_false, false_or, s1_ltx, if_true, if_false, Nat.add_zero, Nat.zero_add,  d_leF, d_leT, d_ltF, d_ltT, d_eqF, d_eqT]
    have x2 : ((4 : Int32) * nI v + 2).toNatClampNeg = 4 * v + 2 := by simp (disch := omega) only [fa_lit, nI_ltI, nI_leI, nI_eq, nI_add, pk_mul, nI_clamp, vp_in_nI, l_uk, l_n1, l_n1e, l_n1e2, l_n1l, l_n1l2, l_n1l3, not_true_eq_false, not_false_eq_true, true_implies, false_implies, true_and, and_true, and_self, forall_eq, bI_t, bI_f, Bool.false_eq_true, or_true, true_or, or_false, false_or, s1_ltx, if_true, if_false, Nat.add_zero, Nat.zero_add,  d_leF, d_leT, d_ltF, d_ltT, d_eqF, d_eqT]
    refine p_vhas c6 l4 hv ⟨fun _ => ?_, fun z => absurd z (by decide)⟩
    refine p_differentRows c1 hwT c6 hwV hv ⟨by simp (disch := omega) only [fa_lit, nI_ltI, nI_leI, nI_eq, nI_add, pk_mul, nI_clamp, vp_in_nI, l_uk, l_n1, l_n1e, l_n1e2, l_n1l, l_n1l2, l_n1l3, not_true_eq_false, not_false_eq_true, true_implies, false_implies, true_and, and_true, and_self, forall_eq, bI_t, bI_f, Bool.false_eq_true, or_true, true_or, or_false, false_or, s1_ltx, if_true, if_false, Nat.add_zero, Nat.zero_add,  d_leF, d_leT, d_ltF, d_ltT, d_eqF, d_eqT], fun J4 e4 => ⟨hV, ?_⟩⟩
    refine m_in hv (by omega) ⟨fun z => absurd z (by decide), fun _ => m_goesWell_0 ⟨fun _ => ⟨by simp (disch := omega) only [fa_lit, nI_ltI, nI_leI, nI_eq, nI_add, pk_mul, nI_clamp, vp_in_nI, l_uk, l_n1, l_n1e, l_n1e2, l_n1l, l_n1l2, l_n1l3, not_true_eq_false, not_false_eq_true, true_implies, false_implies, true_and, and_true, and_self, forall_eq, bI_t, bI_f, Bool.false_eq_true, or_true, true_or, or_false, false_or, s1_ltx, if_true, if_false, Nat.add_zero, Nat.zero_add,  d_leF, d_leT, d_ltF, d_ltT, d_eqF, d_eqT], fun v4 e5 => ⟨by simp (disch := omega) only [fa_lit, nI_ltI, nI_leI, nI_eq, nI_add, pk_mul, nI_clamp, vp_in_nI, l_uk, l_n1, l_n1e, l_n1e2, l_n1l, l_n1l2, l_n1l3, not_true_eq_false, not_false_eq_true, true_implies, false_implies, true_and, and_true, and_self, forall_eq, bI_t, bI_f, Bool.false_eq_true, or_true, true_or, or_false, false_or, s1_ltx, if_true, if_false, Nat.add_zero, Nat.zero_add,  d_leF, d_leT, d_ltF, d_ltT, d_eqF, d_eqT], fun v5 e6 => ?_⟩⟩, fun z => absurd z (by decide)⟩⟩
    rw [x0, q1] at e5
    rw [x2, q3] at e6
    subst e5
    subst e6
    refine m_different_54 m1.w hwT hV2 hwV hv (m_yes hK hL ?_)
    rw [e4]
    exact q_u2_s _ _ _ _
  · refine p_vhas_f c6 hx ⟨fun z => absurd rfl z, fun _ => ⟨rfl, hV, ?_⟩⟩
    exact m_in_f (by omega) hx ⟨fun _ => m_goesWell_n (by decide) ⟨fun z => absurd rfl z, fun _ => m_no hK hL (by decide)⟩, fun z => absurd rfl z⟩
def oft (T : QT) (q : Q4) (r s : Nat) : Nat := if mts T q r s then ct (al T q.1 r) (T.2.2.1 q.1) * ct (al T q.2.1 s) (T.2.2.1 q.2.1) else 0
theorem m_oft {T : QT} {V : List Q4} {v r s : Nat} {Q : Int32 → QI → Prop} (hT : Tm I T) (hwT : Tw T) (hV : Vm I V) (hw : Vw T V) (hv : v < V.length) (hr : r < T.2.2.1 (vq V v).1) (hs : s < T.2.2.1 (vq V v).2.1) (h : Q (nI (oft T (vq V v) r s)) I) : wX8_meet (nI v) (nI r) (nI s) I (fun r4 => ((¬ r4 = 0 → (vp_in (4 * nI v) 16 ∧ (vp_in (4 * nI v) 16 ∧ (vp_in (I 63 ((4 * nI v)).toNatClampNeg) 4 ∧ (wX8_alike (I 63 ((4 * nI v)).toNatClampNeg) (nI r) (I 53 ((I 63 ((4 * nI v)).toNatClampNeg)).toNatClampNeg) I (fun r5 => (vp_in ((4 * nI v) + 2) 16 ∧ (vp_in ((4 * nI v) + 2) 16 ∧ (vp_in (I 63 (((4 * nI v) + 2)).toNatClampNeg) 4 ∧ (wX8_alike (I 63 (((4 * nI v) + 2)).toNatClampNeg) (nI s) (I 53 ((I 63 (((4 * nI v) + 2)).toNatClampNeg)).toNatClampNeg) I (fun r6 => Q (r5 * r6) I))))))))))) ∧ (r4 = 0 → Q 0 I))) := by
  have l4 := hw.1
  obtain ⟨q1, q2, q3, q4⟩ := hV.2 v hv
  obtain ⟨b1, b2, b3, b4, b5, b6⟩ := hw.b hwT hv
  have x0 : ((4 : Int32) * nI v).toNatClampNeg = 4 * v := by simp (disch := omega) only [fa_lit, nI_ltI, nI_leI, nI_eq, nI_add, pk_mul, nI_clamp, vp_in_nI, l_uk, l_n1, l_n1e, l_n1e2, l_n1l, l_n1l2, l_n1l3, not_true_eq_false, not_false_eq_true, true_implies, false_implies, true_and, and_true, and_self, forall_eq, bI_t, bI_f, Bool.false_eq_true, or_true, true_or, or_false, false_or, s1_ltx, if_true, if_false, Nat.add_zero, Nat.zero_add,  d_leF, d_leT, d_ltF, d_ltT, d_eqF, d_eqT]
  have x2 : ((4 : Int32) * nI v + 2).toNatClampNeg = 4 * v + 2 := by simp (disch := omega) only [fa_lit, nI_ltI, nI_leI, nI_eq, nI_add, pk_mul, nI_clamp, vp_in_nI, l_uk, l_n1, l_n1e, l_n1e2, l_n1l, l_n1l2, l_n1l3, not_true_eq_false, not_false_eq_true, true_implies, false_implies, true_and, and_true, and_self, forall_eq, bI_t, bI_f, Bool.false_eq_true, or_true, true_or, or_false, false_or, s1_ltx, if_true, if_false, Nat.add_zero, Nat.zero_add,  d_leF, d_leT, d_ltF, d_ltT, d_eqF, d_eqT]
  have y1 : (nI (vq V v).1).toNatClampNeg = (vq V v).1 := nI_clamp (by omega)
  have y2 : (nI (vq V v).2.1).toNatClampNeg = (vq V v).2.1 := nI_clamp (by omega)
  refine m_meet hT hwT hV hw hv hr hs ?_
  unfold oft at h
  cases e : mts T (vq V v) r s
  · rw [e] at h
    exact ⟨fun z => absurd rfl z, fun _ => h⟩
  · rw [e] at h
    refine ⟨fun _ => ?_, fun z => absurd z (by decide)⟩
    rw [x0, x2, q1, q3, y1, y2, (hT.t b1).2, (hT.t b2).2]
    refine ⟨by simp (disch := omega) only [fa_lit, nI_ltI, nI_leI, nI_eq, nI_add, pk_mul, nI_clamp, vp_in_nI, l_uk, l_n1, l_n1e, l_n1e2, l_n1l, l_n1l2, l_n1l3, not_true_eq_false, not_false_eq_true, true_implies, false_implies, true_and, and_true, and_self, forall_eq, bI_t, bI_f, Bool.false_eq_true, or_true, true_or, or_false, false_or, s1_ltx, if_true, if_false, Nat.add_zero, Nat.zero_add,  d_leF, d_leT, d_ltF, d_ltT, d_eqF, d_eqT], by simp (disch := omega) only [fa_lit, nI_ltI, nI_leI, nI_eq, nI_add, pk_mul, nI_clamp, vp_in_nI, l_uk, l_n1, l_n1e, l_n1e2, l_n1l, l_n1l2, l_n1l3, not_true_eq_false, not_false_eq_true, true_implies, false_implies, true_and, and_true, and_self, forall_eq, bI_t, bI_f, Bool.false_eq_true, or_true, true_or, or_false, false_or, s1_ltx, if_true, if_false, Nat.add_zero, Nat.zero_add,  d_leF, d_leT, d_ltF, d_ltT, d_eqF, d_eqT], by simp (disch := omega) only [fa_lit, nI_ltI, nI_leI, nI_eq, nI_add, pk_mul, nI_clamp, vp_in_nI, l_uk, l_n1, l_n1e, l_n1e2, l_n1l, l_n1l2, l_n1l3, not_true_eq_false, not_false_eq_true, true_implies, false_implies, true_and, and_true, and_self, forall_eq, bI_t, bI_f, Bool.false_eq_true, or_true, true_or, or_false, false_or, s1_ltx, if_true, if_false, Nat.add_zero, Nat.zero_add,  d_leF, d_leT, d_ltF, d_ltT, d_eqF, d_eqT], m_alike hT hwT b1 (by omega) b3 ⟨by simp (disch := omega) only [fa_lit, nI_ltI, nI_leI, nI_eq, nI_add, pk_mul, nI_clamp, vp_in_nI, l_uk, l_n1, l_n1e, l_n1e2, l_n1l, l_n1l2, l_n1l3, not_true_eq_false, not_false_eq_true, true_implies, false_implies, true_and, and_true, and_self, forall_eq, bI_t, bI_f, Bool.false_eq_true, or_true, true_or, or_false, false_or, s1_ltx, if_true, if_false, Nat.add_zero, Nat.zero_add,  d_leF, d_leT, d_ltF, d_ltT, d_eqF, d_eqT], by simp (disch := omega) only [fa_lit, nI_ltI, nI_leI, nI_eq, nI_add, pk_mul, nI_clamp, vp_in_nI, l_uk, l_n1, l_n1e, l_n1e2, l_n1l, l_n1l2, l_n1l3, not_true_eq_false, not_false_eq_true, true_implies, false_implies, true_and, and_true, and_self, forall_eq, bI_t, bI_f, Bool.false_eq_true, or_true, true_or, or_false, false_or, s1_ltx, if_true, if_false, Nat.add_zero, Nat.zero_add,  d_leF, d_leT, d_ltF, d_ltT, d_eqF, d_eqT], by simp (disch := omega) only [fa_lit, nI_ltI, nI_leI, nI_eq, nI_add, pk_mul, nI_clamp, vp_in_nI, l_uk, l_n1, l_n1e, l_n1e2, l_n1l, l_n1l2, l_n1l3, not_true_eq_false, not_false_eq_true, true_implies, false_implies, true_and, and_true, and_self, forall_eq, bI_t, bI_f, Bool.false_eq_true, or_true, true_or, or_false, false_or, s1_ltx, if_true, if_false, Nat.add_zero, Nat.zero_add,  d_leF, d_leT, d_ltF, d_ltT, d_eqF, d_eqT], m_alike hT hwT b2 (by omega) b4 ?_⟩⟩
    have g1 := ct_le (al T (vq V v).1 r) (T.2.2.1 (vq V v).1)
    have g2 := ct_le (al T (vq V v).2.1 s) (T.2.2.1 (vq V v).2.1)
    have g3 : ct (al T (vq V v).1 r) (T.2.2.1 (vq V v).1) * ct (al T (vq V v).2.1 s) (T.2.2.1 (vq V v).2.1) ≤ 10 * 10 := Nat.mul_le_mul (by omega) (by omega)
    rw [pk_mul]
    exact h
theorem b_often {V1 V2 V3 : Prop} {a1 a2 a3 : Int32} (hV : V1 ∧ V2 ∧ V3) (hK : Kw9 K i) (h : LR i Z S I k n) (hi : i < 512) : wL_often a1 a2 a3 I J (fun r1 J3 => V1 ∧ (V2 ∧ (V3 ∧ wX8_often a1 a2 a3 I (fun r5 I4 => fin9 K post (nI (6 * i)) S I4 J3 (k + 1) (n + 6) r1 r5)))) := by
  have hL := h.nc hi
  obtain ⟨T, P, bu, Kk, Vv⟩ := Z
  obtain ⟨hwT, hwP, hd, hbu, hwK, hwV⟩ := h.2.1
  obtain ⟨c1, c2, c3, c4, c5, c6⟩ := h.2.2.1
  obtain ⟨m1, m2, m3, m4, m5⟩ := h.2.2.2.1
  obtain ⟨hV1, hV2, hV3⟩ := hV
  replace hwT : Tw T := hwT
  replace hwV : Vw T Vv := hwV
  replace m5 : Vm I Vv := m5
  replace m1 : Tm I T := m1
  replace c6 : Vc I Vv := c6
  have l4 := hwV.1
  unfold wL_often wX7_often wX6_hasRows wX8_often
  rw [m5.1]
  rcases ixc a1 Vv.length (by omega) with ⟨v, hv, rfl⟩ | hx
  · obtain ⟨q1, q2, q3, q4⟩ := m5.2 v hv
    obtain ⟨b1, b2, b3, b4, b5, b6⟩ := hwV.b hwT hv
    have x0 : ((4 : Int32) * nI v).toNatClampNeg = 4 * v := by simp (disch := omega) only [fa_lit, nI_ltI, nI_leI, nI_eq, nI_add, pk_mul, nI_clamp, vp_in_nI, l_uk, l_n1, l_n1e, l_n1e2, l_n1l, l_n1l2, l_n1l3, not_true_eq_false, not_false_eq_true, true_implies, false_implies, true_and, and_true, and_self, forall_eq, bI_t, bI_f, Bool.false_eq_true, or_true, true_or, or_false, false_or, s1_ltx, if_true, if_false, Nat.add_zero, Nat.zero_add,  d_leF, d_leT, d_ltF, d_ltT, d_eqF, d_eqT]
    have x2 : ((4 : Int32) * nI v + 2).toNatClampNeg = 4 * v + 2 := by simp (disch := omega) only [fa_lit, nI_ltI, nI_leI, nI_eq, nI_add, pk_mul, nI_clamp, vp_in_nI, l_uk, l_n1, l_n1e, l_n1e2, l_n1l, l_n1l2, l_n1l3, not_true_eq_false, not_false_eq_true, true_implies, false_implies, true_and, and_true, and_self, forall_eq, bI_t, bI_f, Bool.false_eq_true, or_true, true_or, or_false, false_or, s1_ltx, if_true, if_false, Nat.add_zero, Nat.zero_add,  d_leF, d_leT, d_ltF, d_ltT, d_eqF, d_eqT]
    have y1 : (nI (vq Vv v).1).toNatClampNeg = (vq Vv v).1 := nI_clamp (by omega)
    have y2 : (nI (vq Vv v).2.1).toNatClampNeg = (vq Vv v).2.1 := nI_clamp (by omega)
    have u0 : vp_in ((4 : Int32) * nI v) 16 := by simp (disch := omega) only [fa_lit, nI_ltI, nI_leI, nI_eq, nI_add, pk_mul, nI_clamp, vp_in_nI, l_uk, l_n1, l_n1e, l_n1e2, l_n1l, l_n1l2, l_n1l3, not_true_eq_false, not_false_eq_true, true_implies, false_implies, true_and, and_true, and_self, forall_eq, bI_t, bI_f, Bool.false_eq_true, or_true, true_or, or_false, false_or, s1_ltx, if_true, if_false, Nat.add_zero, Nat.zero_add,  d_leF, d_leT, d_ltF, d_ltT, d_eqF, d_eqT]
    have u2 : vp_in ((4 : Int32) * nI v + 2) 16 := by simp (disch := omega) only [fa_lit, nI_ltI, nI_leI, nI_eq, nI_add, pk_mul, nI_clamp, vp_in_nI, l_uk, l_n1, l_n1e, l_n1e2, l_n1l, l_n1l2, l_n1l3, not_true_eq_false, not_false_eq_true, true_implies, false_implies, true_and, and_true, and_self, forall_eq, bI_t, bI_f, Bool.false_eq_true, or_true, true_or, or_false, false_or, s1_ltx, if_true, if_false, Nat.add_zero, Nat.zero_add,  d_leF, d_leT, d_ltF, d_ltT, d_eqF, d_eqT]
    have u1 : vp_in (I 63 ((4 : Int32) * nI v).toNatClampNeg) 4 := by rw [x0, q1]; simp (disch := omega) only [fa_lit, nI_ltI, nI_leI, nI_eq, nI_add, pk_mul, nI_clamp, vp_in_nI, l_uk, l_n1, l_n1e, l_n1e2, l_n1l, l_n1l2, l_n1l3, not_true_eq_false, not_false_eq_true, true_implies, false_implies, true_and, and_true, and_self, forall_eq, bI_t, bI_f, Bool.false_eq_true, or_true, true_or, or_false, false_or, s1_ltx, if_true, if_false, Nat.add_zero, Nat.zero_add,  d_leF, d_leT, d_ltF, d_ltT, d_eqF, d_eqT]
    have u3 : vp_in (I 63 ((4 : Int32) * nI v + 2).toNatClampNeg) 4 := by rw [x2, q3]; simp (disch := omega) only [fa_lit, nI_ltI, nI_leI, nI_eq, nI_add, pk_mul, nI_clamp, vp_in_nI, l_uk, l_n1, l_n1e, l_n1e2, l_n1l, l_n1l2, l_n1l3, not_true_eq_false, not_false_eq_true, true_implies, false_implies, true_and, and_true, and_self, forall_eq, bI_t, bI_f, Bool.false_eq_true, or_true, true_or, or_false, false_or, s1_ltx, if_true, if_false, Nat.add_zero, Nat.zero_add,  d_leF, d_leT, d_ltF, d_ltT, d_eqF, d_eqT]
    have z1 : I 53 (I 63 ((4 : Int32) * nI v).toNatClampNeg).toNatClampNeg = nI (T.2.2.1 (vq Vv v).1) := by rw [x0, q1, y1]; exact (m1.t b1).2
    have z2 : I 53 (I 63 ((4 : Int32) * nI v + 2).toNatClampNeg).toNatClampNeg = nI (T.2.2.1 (vq Vv v).2.1) := by rw [x2, q3, y2]; exact (m1.t b2).2
    refine p_vfirst c1 hwT c6 hwV hv (b_some (p_vsecond c1 hwT c6 hwV hv (b_some ?_)))
    rw [z1, z2]
    rcases ixc a2 (T.2.2.1 (vq Vv v).1) (by omega) with ⟨r, hr, rfl⟩ | hx
    · refine p_hasRow c1 hwT b1 hr ⟨fun z => absurd z (by decide), fun _ => ?_⟩
      rcases ixc a3 (T.2.2.1 (vq Vv v).2.1) (by omega) with ⟨s, hs, rfl⟩ | hx
      · refine p_hasRow c1 hwT b2 hs ⟨fun z => absurd z (by decide), fun _ => ⟨fun _ => ?_, fun z => absurd z (by decide)⟩⟩
        refine p_timesOf c1 hwT c6 hwV hv hr hs ⟨by simp (disch := omega) only [fa_lit, nI_ltI, nI_leI, nI_eq, nI_add, pk_mul, nI_clamp, vp_in_nI, l_uk, l_n1, l_n1e, l_n1e2, l_n1l, l_n1l2, l_n1l3, not_true_eq_false, not_false_eq_true, true_implies, false_implies, true_and, and_true, and_self, forall_eq, bI_t, bI_f, Bool.false_eq_true, or_true, true_or, or_false, false_or, s1_ltx, if_true, if_false, Nat.add_zero, Nat.zero_add,  d_leF, d_leT, d_ltF, d_ltT, d_eqF, d_eqT], fun J4 e4 => ⟨hV1, hV2, hV3, ?_⟩⟩
        refine m_in hv (by omega) ⟨fun z => absurd z (by decide), fun _ => ⟨u0, u1, m_in hr (by omega) ⟨fun z => absurd z (by decide), fun _ => ⟨u2, u3, m_in hs (by omega) ⟨fun z => absurd z (by decide), fun _ => m_goesWell_0 ⟨fun z => absurd z (by decide), fun _ => ?_⟩⟩⟩⟩⟩⟩
        refine m_oft (Q := fun r5 I4 => fin9 K post (nI (6 * i)) S I4 J4 (k + 1) (n + 6) 0 r5) m1.w hwT m5.w hwV hv hr hs (m_yes hK hL ?_)
        rw [e4]
        exact q_u2_s _ _ _ _
      · refine p_hasRow_f c1 b2 hx ⟨fun _ => ⟨fun z => absurd rfl z, fun _ => ⟨rfl, hV1, hV2, hV3, ?_⟩⟩, fun z => absurd rfl z⟩
        exact m_in hv (by omega) ⟨fun z => absurd z (by decide), fun _ => ⟨u0, u1, m_in hr (by omega) ⟨fun z => absurd z (by decide), fun _ => ⟨u2, u3, m_in_f (by omega) hx ⟨fun _ => m_goesWell_n (by decide) ⟨fun _ => m_no hK hL (by decide), fun z => absurd rfl z⟩, fun z => absurd rfl z⟩⟩⟩⟩⟩
    · refine p_hasRow_f c1 b1 hx ⟨fun _ => ⟨fun z => absurd rfl z, fun _ => ⟨rfl, hV1, hV2, hV3, ?_⟩⟩, fun z => absurd rfl z⟩
      exact m_in hv (by omega) ⟨fun z => absurd z (by decide), fun _ => ⟨u0, u1, m_in_f (by omega) hx ⟨fun _ => m_goesWell_n (by decide) ⟨fun _ => m_no hK hL (by decide), fun z => absurd rfl z⟩, fun z => absurd rfl z⟩⟩⟩
  · refine p_vfirst_f c6 hx (b_none (p_vsecond_f c6 hx (b_none ⟨fun z => absurd rfl z, fun _ => ⟨rfl, hV1, hV2, hV3, ?_⟩⟩)))
    exact m_in_f (by omega) hx ⟨fun _ => m_goesWell_n (by decide) ⟨fun _ => m_no hK hL (by decide), fun z => absurd rfl z⟩, fun z => absurd rfl z⟩
theorem Rc.ws {I I2 : QI} {Z : Zs} {i t : Nat} (h : Rc I Z i) (hw : Rw Z) (ht : t < 4) (e : ∀ b, b ≠ 5 + 3 * t → I2 b = I b) : Rc I2 Z i := by
  obtain ⟨a, b, ⟨ch, c0, c⟩, d, f, g⟩ := h
  exact ⟨Tc_r a e, b.cg (fun b h1 hb => e b (by omega)), ⟨ch, c0, c.cg hw.2.1 (by rw [e 1 (by omega)]) (fun b h1 hb => e b (by omega))⟩, by rw [e 0 (by omega)]; exact d, f.cg (fun b h1 hb => e b (by omega)), g.cg (fun b h1 _ => e b (by omega))⟩
theorem Fm.ws {I I3 : QI} (x : Int32) (h : ∀ b, b ≠ 78 → I3 b = q_u2 I 51 0 x b) : (∀ b, b < 51 → I3 b = I b) ∧ Fm I I3 ∧ I3 51 0 = x := by
  have e : ∀ b, b ≠ 51 → b ≠ 78 → I3 b = I b := fun b h1 h2 => by rw [h b h2]; exact nr_u2 h1
  have j : ∀ j, j ≠ 0 → I3 51 j = I 51 j := fun j hj => by rw [h 51 (by omega)]; exact q_u2_j _ _ _ hj
  exact ⟨fun b hb => e b (by omega) (by omega), ⟨fun b hb => e b (by omega) (by omega), j 1 (by omega), j 5 (by omega), j 13 (by omega), j 14 (by omega), j 16 (by omega), j 24 (by omega), j 27 (by omega)⟩, by rw [h 51 (by omega)]; exact q_u2_s _ _ _ _⟩
theorem b_ways {V : Prop} {a : Int32} (hV : V) (hK : Kw9 K i) (h : LR i Z S I k n) (hi : i < 512) : wL_ways a I J (fun r1 I2 J3 => V ∧ wX8_ways a I2 (fun r5 I4 => fin9 K post (nI (6 * i)) S I4 J3 (k + 1) (n + 6) r1 r5)) := by
  have hL := h.nc hi
  obtain ⟨T, P, bu, Kk, Vv⟩ := Z
  have hw := h.2.1
  obtain ⟨hwT, hwP, hd, hbu, hwK, hwV⟩ := h.2.1
  have hRc := h.2.2.1
  obtain ⟨c1, c2, c3, c4, c5, c6⟩ := h.2.2.1
  obtain ⟨m1, m2, m3, m4, m5⟩ := h.2.2.2.1
  replace hwT : Tw T := hwT
  replace c1 : Tc I T := c1
  replace m1 : Tm I T := m1
  have t4 := hwT.1
  unfold wL_ways wX7_ways wX8_ways
  rcases ixc a T.1 (by omega) with ⟨t, ht, rfl⟩ | hx
  · obtain ⟨t4, w3, m10, w1⟩ := hwT.l ht
    have ec : (nI t).toNatClampNeg = t := nI_clamp (by omega)
    have hv : vp_in (nI t) 4 := by simp (disch := omega) only [fa_lit, nI_ltI, nI_leI, nI_eq, nI_add, pk_mul, nI_clamp, vp_in_nI, l_uk, l_n1, l_n1e, l_n1e2, l_n1l, l_n1l2, l_n1l3, not_true_eq_false, not_false_eq_true, true_implies, false_implies, true_and, and_true, and_self, forall_eq, bI_t, bI_f, Bool.false_eq_true, or_true, true_or, or_false, false_or, s1_ltx, if_true, if_false, Nat.add_zero, Nat.zero_add,  d_leF, d_leT, d_ltF, d_ltT, d_eqF, d_eqT]
    refine find_t c1 hwT ht (b_some ?_)
    unfold wX5_hasColumn
    rw [(c1.t t4).1]
    refine ⟨fun z => absurd z (by decide), fun _ => ?_⟩
    by_cases hc : 1 < T.2.1 t
    · refine ⟨fun z => ?_, fun _ => ⟨fun _ => ?_, fun z => absurd z (by decide)⟩⟩
      · replace z : nI (T.2.1 t) ≤ nI 1 := z
        rw [nI_leI (by omega) (by omega)] at z
        omega
      refine p_pathPairs c1 hwT t4 hc (fun I2 hF => ⟨by simp (disch := omega) only [fa_lit, nI_ltI, nI_leI, nI_eq, nI_add, pk_mul, nI_clamp, vp_in_nI, l_uk, l_n1, l_n1e, l_n1e2, l_n1l, l_n1l2, l_n1l3, not_true_eq_false, not_false_eq_true, true_implies, false_implies, true_and, and_true, and_self, forall_eq, bI_t, bI_f, Bool.false_eq_true, or_true, true_or, or_false, false_or, s1_ltx, if_true, if_false, Nat.add_zero, Nat.zero_add,  d_leF, d_leT, d_ltF, d_ltT, d_eqF, d_eqT], fun J4 e4 => ⟨hV, ?_⟩⟩)
      have hL2 : Lc i (T, P, bu, Kk, Vv) (T, P, bu, Kk, Vv) S I2 k n := h.lc hi hw (hRc.ws hw t4 hF).up (fun b hb => hF b (by omega))
      obtain ⟨t2, p2, b2, k2, v2⟩ := hL2.2.2.2.2.1
      replace t2 : Tm I2 T := t2
      refine m_isTable t2 hwT ht ⟨fun _ => ⟨hv, ?_⟩, fun z => absurd z (by decide)⟩
      rw [ec, (t2.t t4).1]
      refine ⟨fun _ => m_goesWell_0 ⟨fun _ => ?_, fun z => absurd z (by decide)⟩, fun z => absurd ?_ z⟩
      · refine m_ways_43 t2.w hwT t4 (fun I3 hF3 => ?_)
        obtain ⟨f1, f2, f3⟩ := Fm.ws 0 hF3
        refine m_end hK hL2 f1 f2 f3 (fun _ => ?_)
        rw [e4]
        exact q_u2_s _ _ _ _
      · show nI 2 ≤ nI (T.2.1 t)
        rw [nI_leI (by omega) (by omega)]
        omega
    · refine ⟨fun _ => ⟨fun z => absurd rfl z, fun _ => Or.inr ⟨rfl, hV, ?_⟩⟩, fun z => absurd ?_ z⟩
      · refine m_isTable m1 hwT ht ⟨fun _ => ⟨hv, ?_⟩, fun z => absurd z (by decide)⟩
        rw [ec, (m1.t t4).1]
        refine ⟨fun z => ?_, fun _ => m_goesWell_n (by decide) ⟨fun z => absurd rfl z, fun _ => m_no hK hL (by decide)⟩⟩
        replace z : nI 2 ≤ nI (T.2.1 t) := z
        rw [nI_leI (by omega) (by omega)] at z
        omega
      · show nI (T.2.1 t) ≤ nI 1
        rw [nI_leI (by omega) (by omega)]
        omega
  · refine find_f c1 hwT hx (b_none (Or.inl ⟨rfl, hV, ?_⟩))
    exact m_isTable_f m1 hwT hx ⟨fun z => absurd rfl z, fun _ => m_goesWell_n (by decide) ⟨fun z => absurd rfl z, fun _ => m_no hK hL (by decide)⟩⟩
theorem L_20 {X : QX} (hl : X.2.1.2.1 ≤ 3072) (hi6 : 6 * i + 6 ≤ X.2.1.2.1) (hK : Kw9 K i) (h : LR i Z S I k n) : wL_c20 X K post (nI (6 * i)) S I J k n := by
  have hv : ∀ j : Nat, j < 6 → vp_in (nI (6 * i) + nI j) X.2.1.2.1 := fun j hj => by simp (disch := omega) only [fa_lit, nI_ltI, nI_leI, nI_eq, nI_add, pk_mul, nI_clamp, vp_in_nI, l_uk, l_n1, l_n1e, l_n1e2, l_n1l, l_n1l2, l_n1l3, not_true_eq_false, not_false_eq_true, true_implies, false_implies, true_and, and_true, and_self, forall_eq, bI_t, bI_f, Bool.false_eq_true, or_true, true_or, or_false, false_or, s1_ltx, if_true, if_false, Nat.add_zero, Nat.zero_add,  d_leF, d_leT, d_ltF, d_ltT, d_eqF, d_eqT]
  have hkn := h.kn
  exact ⟨hv 1 (by omega), hkn.1, hkn.2, b_different (hv 1 (by omega)) hK h (by omega)⟩
theorem L_21 {X : QX} (hl : X.2.1.2.1 ≤ 3072) (hi6 : 6 * i + 6 ≤ X.2.1.2.1) (hK : Kw9 K i) (h : LR i Z S I k n) : wL_c21 X K post (nI (6 * i)) S I J k n := by
  have hv : ∀ j : Nat, j < 6 → vp_in (nI (6 * i) + nI j) X.2.1.2.1 := fun j hj => by simp (disch := omega) only [fa_lit, nI_ltI, nI_leI, nI_eq, nI_add, pk_mul, nI_clamp, vp_in_nI, l_uk, l_n1, l_n1e, l_n1e2, l_n1l, l_n1l2, l_n1l3, not_true_eq_false, not_false_eq_true, true_implies, false_implies, true_and, and_true, and_self, forall_eq, bI_t, bI_f, Bool.false_eq_true, or_true, true_or, or_false, false_or, s1_ltx, if_true, if_false, Nat.add_zero, Nat.zero_add,  d_leF, d_leT, d_ltF, d_ltT, d_eqF, d_eqT]
  have hkn := h.kn
  exact ⟨hv 1 (by omega), hv 2 (by omega), hv 3 (by omega), hkn.1, hkn.2, b_often ⟨hv 1 (by omega), hv 2 (by omega), hv 3 (by omega)⟩ hK h (by omega)⟩
theorem L_22 {X : QX} (hl : X.2.1.2.1 ≤ 3072) (hi6 : 6 * i + 6 ≤ X.2.1.2.1) (hK : Kw9 K i) (h : LR i Z S I k n) : wL_c22 X K post (nI (6 * i)) S I J k n := by
  have hv : ∀ j : Nat, j < 6 → vp_in (nI (6 * i) + nI j) X.2.1.2.1 := fun j hj => by simp (disch := omega) only [fa_lit, nI_ltI, nI_leI, nI_eq, nI_add, pk_mul, nI_clamp, vp_in_nI, l_uk, l_n1, l_n1e, l_n1e2, l_n1l, l_n1l2, l_n1l3, not_true_eq_false, not_false_eq_true, true_implies, false_implies, true_and, and_true, and_self, forall_eq, bI_t, bI_f, Bool.false_eq_true, or_true, true_or, or_false, false_or, s1_ltx, if_true, if_false, Nat.add_zero, Nat.zero_add,  d_leF, d_leT, d_ltF, d_ltT, d_eqF, d_eqT]
  have hkn := h.kn
  exact ⟨hv 1 (by omega), hkn.1, hkn.2, b_ways (hv 1 (by omega)) hK h (by omega)⟩
end LC
