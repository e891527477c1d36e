/-! pure: views: the class and the reference -/
abbrev Q4 : Type := Nat × Nat × Nat × Nat
def vq (V : List Q4) (v : Nat) : Q4 := V.getD v (0, 0, 0, 0)
def Vc (I : QI) (V : List Q4) : Prop := I 46 5 = nI V.length ∧ ∀ v, v < V.length → I 47 v = nI (vq V v).1 ∧ I 48 v = nI (vq V v).2.1 ∧ I 49 v = nI (vq V v).2.2.1 ∧ I 50 v = nI (vq V v).2.2.2
def Vm (I : QI) (V : List Q4) : Prop := I 51 16 = nI V.length ∧ ∀ v, v < V.length → I 63 (4 * v) = nI (vq V v).1 ∧ I 63 (4 * v + 1) = nI (vq V v).2.2.1 ∧ I 63 (4 * v + 2) = nI (vq V v).2.1 ∧ I 63 (4 * v + 3) = nI (vq V v).2.2.2
/-- two tables and a column of each -/
def q4W (T : QT) (q : Q4) : Prop := q.1 < T.1 ∧ q.2.1 < T.1 ∧ q.2.2.1 < T.2.1 q.1 ∧ q.2.2.2 < T.2.1 q.2.1
def Vw (T : QT) (V : List Q4) : Prop := V.length ≤ 4 ∧ ∀ v, v < V.length → q4W T (vq V v)
def mts (T : QT) (q : Q4) (r s : Nat) : Bool := isT 0 (T.2.2.2 q.1 r q.2.2.1) (T.2.2.2 q.2.1 s q.2.2.2)
section VV
variable {I : QI} {T : QT} {V : List Q4} {v : Nat}
theorem p_vhas {post : Int32 → Prop} (hV : Vc I V) (hl : V.length ≤ 4) (hv : v < V.length) (h : post (nI 1)) : wX6_has (nI v) I post := by
  unfold wX6_has
  simp (disch := omega) only [hV.1, fa_lit, nI_ltI, nI_leI, nI_eq, nI_add, pk_mul, nI_clamp, vp_in_nI, l_uk, l_n1, l_n1e, l_n1e2, l_n1l, l_n1l2, l_n1l3, not_true_eq_false, not_false_eq_true, true_implies, false_implies, true_and, and_true, and_self, forall_eq, bI_t, bI_f, Bool.false_eq_true, or_true, true_or, or_false, false_or, s1_ltx, if_true, if_false, Nat.add_zero, Nat.zero_add,  d_leF, d_leT, d_ltF, d_ltT, d_eqF, d_eqT]
  exact h
theorem p_vhas_f {x : Int32} {post : Int32 → Prop} (hV : Vc I V) (hx : x < 0 ∨ nI V.length ≤ x) (h : post (nI 0)) : wX6_has x I post := by
  unfold wX6_has
  refine ⟨fun _ => h, fun e => ⟨fun _ => h, fun e2 => ?_⟩⟩
  rw [hV.1] at e2
  exact absurd hx (not_or.mpr ⟨e, e2⟩)
theorem p_vfirst {post : Option Nat → Prop} (hT : Tc I T) (hwT : Tw T) (hV : Vc I V) (hw : Vw T V) (hv : v < V.length) (h : post (some (vq V v).1)) : wX6_firstOf (nI v) I post := by
  have hl := hw.1
  have q := hV.2 v hv
  unfold wX6_firstOf
  refine p_vhas hV hl hv ?_
  simp (disch := omega) only [q.1, fa_lit, nI_ltI, nI_leI, nI_eq, nI_add, pk_mul, nI_clamp, vp_in_nI, l_uk, l_n1, l_n1e, l_n1e2, l_n1l, l_n1l2, l_n1l3, not_true_eq_false, not_false_eq_true, true_implies, false_implies, true_and, and_true, and_self, forall_eq, bI_t, bI_f, Bool.false_eq_true, or_true, true_or, or_false, false_or, s1_ltx, if_true, if_false, Nat.add_zero, Nat.zero_add,  d_leF, d_leT, d_ltF, d_ltT, d_eqF, d_eqT]
  exact find_t hT hwT (hw.2 v hv).1 (b_some h)
theorem p_vsecond {post : Option Nat → Prop} (hT : Tc I T) (hwT : Tw T) (hV : Vc I V) (hw : Vw T V) (hv : v < V.length) (h : post (some (vq V v).2.1)) : wX6_secondOf (nI v) I post := by
  have hl := hw.1
  have q := hV.2 v hv
  unfold wX6_secondOf
  refine p_vhas hV hl hv ?_
  simp (disch := omega) only [q.2.1, fa_lit, nI_ltI, nI_leI, nI_eq, nI_add, pk_mul, nI_clamp, vp_in_nI, l_uk, l_n1, l_n1e, l_n1e2, l_n1l, l_n1l2, l_n1l3, not_true_eq_false, not_false_eq_true, true_implies, false_implies, true_and, and_true, and_self, forall_eq, bI_t, bI_f, Bool.false_eq_true, or_true, true_or, or_false, false_or, s1_ltx, if_true, if_false, Nat.add_zero, Nat.zero_add,  d_leF, d_leT, d_ltF, d_ltT, d_eqF, d_eqT]
  exact find_t hT hwT (hw.2 v hv).2.1 (b_some h)
theorem p_vfirst_f {x : Int32} {post : Option Nat → Prop} (hV : Vc I V) (hx : x < 0 ∨ nI V.length ≤ x) (h : post none) : wX6_firstOf x I post := by
  unfold wX6_firstOf
  refine p_vhas_f hV hx ?_
  exact ⟨fun _ => h, fun e => absurd rfl e⟩
theorem p_vsecond_f {x : Int32} {post : Option Nat → Prop} (hV : Vc I V) (hx : x < 0 ∨ nI V.length ≤ x) (h : post none) : wX6_secondOf x I post := by
  unfold wX6_secondOf
  refine p_vhas_f hV hx ?_
  exact ⟨fun _ => h, fun e => absurd rfl e⟩
theorem p_areEqual {x y : Int32} {post : Int32 → Prop} (h : post (bI (isT 0 x y))) : wX7_areEqual x y I post := by
  rw [isT0] at h
  unfold wX7_areEqual
  refine ⟨fun e => ?_, fun e => ⟨fun e2 => ?_, fun e2 => ?_⟩⟩
  · rw [decide_eq_false (fun z => z.1 e)] at h
    exact h
  · rw [decide_eq_false (fun z => e2 z.2.symm)] at h
    exact h
  · rw [decide_eq_true ⟨e, e2.symm⟩] at h
    exact h
theorem Vw.b {v : Nat} (hw : Vw T V) (hwT : Tw T) (hv : v < V.length) : (vq V v).1 < 4 ∧ (vq V v).2.1 < 4 ∧ T.2.2.1 (vq V v).1 ≤ 10 ∧ T.2.2.1 (vq V v).2.1 ≤ 10 ∧ (vq V v).2.2.1 < 3 ∧ (vq V v).2.2.2 < 3 := by
  obtain ⟨a, b, c, d⟩ := hw.2 v hv
  obtain ⟨x1, x2, x3, x4⟩ := hwT.l a
  obtain ⟨y1, y2, y3, y4⟩ := hwT.l b
  exact ⟨x1, y1, x3, y3, by omega, by omega⟩
theorem p_meet {r s : Nat} {post : Int32 → Prop} (hT : Tc I T) (hwT : Tw T) (hV : Vc I V) (hw : Vw T V) (hv : v < V.length) (hr : r < T.2.2.1 (vq V v).1) (hs : s < T.2.2.1 (vq V v).2.1) (h : post (bI (mts T (vq V v) r s))) : wX6_meet (nI v) (nI r) (nI s) I post := by
  have hl := hw.1
  have q := hV.2 v hv
  obtain ⟨b1, b2, b3, b4, b5, b6⟩ := hw.b hwT hv
  unfold wX6_meet
  refine p_vfirst hT hwT hV hw hv (b_some (p_vsecond hT hwT hV hw hv (b_some (p_vhas hV hl hv ?_))))
  simp (disch := omega) only [q.2.2.1, q.2.2.2, fa_lit, nI_ltI, nI_leI, nI_eq, nI_add, pk_mul, nI_clamp, vp_in_nI, l_uk, l_n1, l_n1e, l_n1e2, l_n1l, l_n1l2, l_n1l3, not_true_eq_false, not_false_eq_true, true_implies, false_implies, true_and, and_true, and_self, forall_eq, bI_t, bI_f, Bool.false_eq_true, or_true, true_or, or_false, false_or, s1_ltx, if_true, if_false, Nat.add_zero, Nat.zero_add,  d_leF, d_leT, d_ltF, d_ltT, d_eqF, d_eqT]
  refine p_value hT hwT b1 hr (hw.2 v hv).2.2.1 (p_value hT hwT b2 hs (hw.2 v hv).2.2.2 ?_)
  exact p_areEqual ⟨bI_01 _, h⟩
theorem p_timesOf {r s : Nat} {post : Int32 → Prop} (hT : Tc I T) (hwT : Tw T) (hV : Vc I V) (hw : Vw T V) (hv : v < V.length) (hr : r < T.2.2.1 (vq V v).1) (hs : s < T.2.2.1 (vq V v).2.1) (h : post (nI (if mts T (vq V v) r s then ct (al T (vq V v).1 r) (T.2.2.1 (vq V v).1) * ct (al T (vq V v).2.1 s) (T.2.2.1 (vq V v).2.1) else 0))) : wX6_timesOf (nI v) (nI r) (nI s) I post := by
  obtain ⟨b1, b2, b3, b4, b5, b6⟩ := hw.b hwT hv
  unfold wX6_timesOf
  refine p_vfirst hT hwT hV hw hv (b_some (p_vsecond hT hwT hV hw hv (b_some ?_)))
  refine p_meet hT hwT hV hw hv hr hs ?_
  cases e : mts T (vq V v) r s
  · rw [e] at h
    simp (disch := omega) only [fa_lit, nI_ltI, nI_leI, nI_eq, nI_add, pk_mul, nI_clamp, vp_in_nI, l_uk, l_n1, l_n1e, l_n1e2, l_n1l, l_n1l2, l_n1l3, not_true_eq_false, not_false_eq_true, true_implies, false_implies, true_and, and_true, and_self, forall_eq, bI_t, bI_f, Bool.false_eq_true, or_true, true_or, or_false, false_or, s1_ltx, if_true, if_false, Nat.add_zero, Nat.zero_add,  d_leF, d_leT, d_ltF, d_ltT, d_eqF, d_eqT]
    exact h
  · rw [e] at h
    simp (disch := omega) only [fa_lit, nI_ltI, nI_leI, nI_eq, nI_add, pk_mul, nI_clamp, vp_in_nI, l_uk, l_n1, l_n1e, l_n1e2, l_n1l, l_n1l2, l_n1l3, not_true_eq_false, not_false_eq_true, true_implies, false_implies, true_and, and_true, and_self, forall_eq, bI_t, bI_f, Bool.false_eq_true, or_true, true_or, or_false, false_or, s1_ltx, if_true, if_false, Nat.add_zero, Nat.zero_add,  d_leF, d_leT, d_ltF, d_ltT, d_eqF, d_eqT]
    refine p_countAlike hT hwT b1 hr (p_countAlike hT hwT b2 hs ?_)
    rw [pk_mul]
    exact h
def fsA (T : QT) (t r : Nat) : Bool := decide (ct (al T t r) r = 0)
def prt (T : QT) (q : Q4) (r : Nat) : Nat := ct (fun s => fsA T q.2.1 s && mts T q r s) (T.2.2.1 q.2.1)
def dff (T : QT) (q : Q4) : Nat := sm (fun r => if fsA T q.1 r then prt T q r else 0) (T.2.2.1 q.1)
theorem p_countPartners {r : Nat} {post : Int32 → Prop} (hT : Tc I T) (hwT : Tw T) (hV : Vc I V) (hw : Vw T V) (hv : v < V.length) (hr : r < T.2.2.1 (vq V v).1) (h : post (nI (prt T (vq V v) r))) : wX6_countPartners (nI v) (nI r) I post := by
  obtain ⟨b1, b2, b3, b4, b5, b6⟩ := hw.b hwT hv
  unfold wX6_countPartners
  refine p_vsecond hT hwT hV hw hv (b_some ?_)
  refine lp (fun f i (n : Nat) => wX6_countPartners_12_1 (nI v) (nI r) (vq V v).2.1 I post f (nI n) (nI i)) (fun i n => n = ct (fun s => fsA T (vq V v).2.1 s && mts T (vq V v) r s) i) (T.2.2.1 (vq V v).2.1) ?_ ?_ 0 0 (Nat.zero_le _) rfl
  · intro f n hn
    unfold prt at h
    rw [← hn] at h
    show wX6_countPartners_12_1 _ _ _ _ _ _ _ _
    rw [wX6_countPartners_12_1]
    unfold wX5_count
    simp (disch := omega) only [(hT.t b2).2, fa_lit, nI_ltI, nI_leI, nI_eq, nI_add, pk_mul, nI_clamp, vp_in_nI, l_uk, l_n1, l_n1e, l_n1e2, l_n1l, l_n1l2, l_n1l3, not_true_eq_false, not_false_eq_true, true_implies, false_implies, true_and, and_true, and_self, forall_eq, bI_t, bI_f, Bool.false_eq_true, or_true, true_or, or_false, false_or, s1_ltx, if_true, if_false, Nat.add_zero, Nat.zero_add,  d_leF, d_leT, d_ltF, d_ltT, d_eqF, d_eqT]
    exact h
  · intro f i n hi hn hk
    show wX6_countPartners_12_1 _ _ _ _ _ _ _ _
    rw [wX6_countPartners_12_1]
    unfold wX5_count
    simp (disch := omega) only [(hT.t b2).2, fa_lit, nI_ltI, nI_leI, nI_eq, nI_add, pk_mul, nI_clamp, vp_in_nI, l_uk, l_n1, l_n1e, l_n1e2, l_n1l, l_n1l2, l_n1l3, not_true_eq_false, not_false_eq_true, true_implies, false_implies, true_and, and_true, and_self, forall_eq, bI_t, bI_f, Bool.false_eq_true, or_true, true_or, or_false, false_or, s1_ltx, if_true, if_false, Nat.add_zero, Nat.zero_add,  d_leF, d_leT, d_ltF, d_ltT, d_eqF, d_eqT]
    refine p_isFirstAlike hT hwT b2 hi ?_
    have e9 : decide (ct (al T (vq V v).2.1 i) i = 0) = fsA T (vq V v).2.1 i := rfl
    rw [e9]
    cases e : fsA T (vq V v).2.1 i
    · simp (disch := omega) only [fa_lit, nI_ltI, nI_leI, nI_eq, nI_add, pk_mul, nI_clamp, vp_in_nI, l_uk, l_n1, l_n1e, l_n1e2, l_n1l, l_n1l2, l_n1l3, not_true_eq_false, not_false_eq_true, true_implies, false_implies, true_and, and_true, and_self, forall_eq, bI_t, bI_f, Bool.false_eq_true, or_true, true_or, or_false, false_or, s1_ltx, if_true, if_false, Nat.add_zero, Nat.zero_add,  d_leF, d_leT, d_ltF, d_ltT, d_eqF, d_eqT]
      exact hk n (by rw [ct_s, e, hn]; rfl)
    · simp (disch := omega) only [fa_lit, nI_ltI, nI_leI, nI_eq, nI_add, pk_mul, nI_clamp, vp_in_nI, l_uk, l_n1, l_n1e, l_n1e2, l_n1l, l_n1l2, l_n1l3, not_true_eq_false, not_false_eq_true, true_implies, false_implies, true_and, and_true, and_self, forall_eq, bI_t, bI_f, Bool.false_eq_true, or_true, true_or, or_false, false_or, s1_ltx, if_true, if_false, Nat.add_zero, Nat.zero_add,  d_leF, d_leT, d_ltF, d_ltT, d_eqF, d_eqT]
      refine p_meet hT hwT hV hw hv hr hi ?_
      cases e2 : mts T (vq V v) r i
      · simp (disch := omega) only [fa_lit, nI_ltI, nI_leI, nI_eq, nI_add, pk_mul, nI_clamp, vp_in_nI, l_uk, l_n1, l_n1e, l_n1e2, l_n1l, l_n1l2, l_n1l3, not_true_eq_false, not_false_eq_true, true_implies, false_implies, true_and, and_true, and_self, forall_eq, bI_t, bI_f, Bool.false_eq_true, or_true, true_or, or_false, false_or, s1_ltx, if_true, if_false, Nat.add_zero, Nat.zero_add,  d_leF, d_leT, d_ltF, d_ltT, d_eqF, d_eqT]
        exact hk n (by rw [ct_s, e, e2, hn]; rfl)
      · simp (disch := omega) only [fa_lit, nI_ltI, nI_leI, nI_eq, nI_add, pk_mul, nI_clamp, vp_in_nI, l_uk, l_n1, l_n1e, l_n1e2, l_n1l, l_n1l2, l_n1l3, not_true_eq_false, not_false_eq_true, true_implies, false_implies, true_and, and_true, and_self, forall_eq, bI_t, bI_f, Bool.false_eq_true, or_true, true_or, or_false, false_or, s1_ltx, if_true, if_false, Nat.add_zero, Nat.zero_add,  d_leF, d_leT, d_ltF, d_ltT, d_eqF, d_eqT]
        exact hk (n + 1) (by rw [ct_s, e, e2, hn]; rfl)
theorem p_differentRows {post : Int32 → Prop} (hT : Tc I T) (hwT : Tw T) (hV : Vc I V) (hw : Vw T V) (hv : v < V.length) (h : post (nI (dff T (vq V v)))) : wX6_differentRows (nI v) I post := by
  obtain ⟨b1, b2, b3, b4, b5, b6⟩ := hw.b hwT hv
  unfold wX6_differentRows
  refine p_vfirst hT hwT hV hw hv (b_some ?_)
  refine lp (fun f i (n : Nat) => wX6_differentRows_11_1 (nI v) (vq V v).1 I post f (nI n) (nI i)) (fun i n => n = sm (fun r => if fsA T (vq V v).1 r then prt T (vq V v) r else 0) i) (T.2.2.1 (vq V v).1) ?_ ?_ 0 0 (Nat.zero_le _) rfl
  · intro f n hn
    unfold dff at h
    rw [← hn] at h
    show wX6_differentRows_11_1 _ _ _ _ _ _ _
    rw [wX6_differentRows_11_1]
    unfold wX5_count
    simp (disch := omega) only [(hT.t b1).2, fa_lit, nI_ltI, nI_leI, nI_eq, nI_add, pk_mul, nI_clamp, vp_in_nI, l_uk, l_n1, l_n1e, l_n1e2, l_n1l, l_n1l2, l_n1l3, not_true_eq_false, not_false_eq_true, true_implies, false_implies, true_and, and_true, and_self, forall_eq, bI_t, bI_f, Bool.false_eq_true, or_true, true_or, or_false, false_or, s1_ltx, if_true, if_false, Nat.add_zero, Nat.zero_add,  d_leF, d_leT, d_ltF, d_ltT, d_eqF, d_eqT]
    exact h
  · intro f i n hi hn hk
    show wX6_differentRows_11_1 _ _ _ _ _ _ _
    rw [wX6_differentRows_11_1]
    unfold wX5_count
    simp (disch := omega) only [(hT.t b1).2, fa_lit, nI_ltI, nI_leI, nI_eq, nI_add, pk_mul, nI_clamp, vp_in_nI, l_uk, l_n1, l_n1e, l_n1e2, l_n1l, l_n1l2, l_n1l3, not_true_eq_false, not_false_eq_true, true_implies, false_implies, true_and, and_true, and_self, forall_eq, bI_t, bI_f, Bool.false_eq_true, or_true, true_or, or_false, false_or, s1_ltx, if_true, if_false, Nat.add_zero, Nat.zero_add,  d_leF, d_leT, d_ltF, d_ltT, d_eqF, d_eqT]
    refine p_isFirstAlike hT hwT b1 hi ?_
    have e9 : decide (ct (al T (vq V v).1 i) i = 0) = fsA T (vq V v).1 i := rfl
    rw [e9]
    cases e : fsA T (vq V v).1 i
    · simp (disch := omega) only [fa_lit, nI_ltI, nI_leI, nI_eq, nI_add, pk_mul, nI_clamp, vp_in_nI, l_uk, l_n1, l_n1e, l_n1e2, l_n1l, l_n1l2, l_n1l3, not_true_eq_false, not_false_eq_true, true_implies, false_implies, true_and, and_true, and_self, forall_eq, bI_t, bI_f, Bool.false_eq_true, or_true, true_or, or_false, false_or, s1_ltx, if_true, if_false, Nat.add_zero, Nat.zero_add,  d_leF, d_leT, d_ltF, d_ltT, d_eqF, d_eqT]
      exact hk n (by rw [sm_s, e, hn]; rfl)
    · simp (disch := omega) only [fa_lit, nI_ltI, nI_leI, nI_eq, nI_add, pk_mul, nI_clamp, vp_in_nI, l_uk, l_n1, l_n1e, l_n1e2, l_n1l, l_n1l2, l_n1l3, not_true_eq_false, not_false_eq_true, true_implies, false_implies, true_and, and_true, and_self, forall_eq, bI_t, bI_f, Bool.false_eq_true, or_true, true_or, or_false, false_or, s1_ltx, if_true, if_false, Nat.add_zero, Nat.zero_add,  d_leF, d_leT, d_ltF, d_ltT, d_eqF, d_eqT]
      refine p_countPartners hT hwT hV hw hv hi ?_
      simp (disch := omega) only [fa_lit, nI_ltI, nI_leI, nI_eq, nI_add, pk_mul, nI_clamp, vp_in_nI, l_uk, l_n1, l_n1e, l_n1e2, l_n1l, l_n1l2, l_n1l3, not_true_eq_false, not_false_eq_true, true_implies, false_implies, true_and, and_true, and_self, forall_eq, bI_t, bI_f, Bool.false_eq_true, or_true, true_or, or_false, false_or, s1_ltx, if_true, if_false, Nat.add_zero, Nat.zero_add,  d_leF, d_leT, d_ltF, d_ltT, d_eqF, d_eqT]
      exact hk (n + prt T (vq V v) i) (by rw [sm_s, e, hn]; rfl)
theorem m_isRowSame {t r s : Nat} {post : Int32 → Prop} (hT : Tm I T) (hwT : Tw T) (ht : t < 4) (hr : r < 10) (hs : s < 10) (h : post (bI (al T t r s))) : wX8_isRowSame (nI t) (nI r) (nI s) I post := by
  have w3 := (hwT.2 t ht).1
  unfold wX8_isRowSame
  refine lp (fun f i (b : Bool) => wX8_isRowSame_6 (nI t) (nI r) (nI s) I post f (bI b) (nI i)) (fun i b => b = decide (∀ c, c < i → T.2.2.2 t r c = T.2.2.2 t s c)) (T.2.1 t) ?_ ?_ 0 true (Nat.zero_le _) (decide_eq_true (fun c hc => absurd hc (Nat.not_lt_zero c))).symm
  · intro f b hI
    unfold al at h
    rw [← hI] at h
    show wX8_isRowSame_6 _ _ _ _ _ _ _ _
    rw [wX8_isRowSame_6]
    simp (disch := omega) only [(hT.t ht).1, fa_lit, nI_ltI, nI_leI, nI_eq, nI_add, pk_mul, nI_clamp, vp_in_nI, l_uk, l_n1, l_n1e, l_n1e2, l_n1l, l_n1l2, l_n1l3, not_true_eq_false, not_false_eq_true, true_implies, false_implies, true_and, and_true, and_self, forall_eq, bI_t, bI_f, Bool.false_eq_true, or_true, true_or, or_false, false_or, s1_ltx, if_true, if_false, Nat.add_zero, Nat.zero_add,  d_leF, d_leT, d_ltF, d_ltT, d_eqF, d_eqT]
    exact ⟨bI_01 b, h⟩
  · intro f i b hi hI hk
    show wX8_isRowSame_6 _ _ _ _ _ _ _ _
    rw [wX8_isRowSame_6]
    cases b
    · simp (disch := omega) only [(hT.t ht).1, fa_lit, nI_ltI, nI_leI, nI_eq, nI_add, pk_mul, nI_clamp, vp_in_nI, l_uk, l_n1, l_n1e, l_n1e2, l_n1l, l_n1l2, l_n1l3, not_true_eq_false, not_false_eq_true, true_implies, false_implies, true_and, and_true, and_self, forall_eq, bI_t, bI_f, Bool.false_eq_true, or_true, true_or, or_false, false_or, s1_ltx, if_true, if_false, Nat.add_zero, Nat.zero_add,  d_leF, d_leT, d_ltF, d_ltT, d_eqF, d_eqT]
      refine hk false ?_
      exact (decide_eq_false (fun z => of_decide_eq_false hI.symm (fun c hc => z c (by omega)))).symm
    · simp (disch := omega) only [(hT.t ht).1, fa_lit, nI_ltI, nI_leI, nI_eq, nI_add, pk_mul, nI_clamp, vp_in_nI, l_uk, l_n1, l_n1e, l_n1e2, l_n1l, l_n1l2, l_n1l3, not_true_eq_false, not_false_eq_true, true_implies, false_implies, true_and, and_true, and_self, forall_eq, bI_t, bI_f, Bool.false_eq_true, or_true, true_or, or_false, false_or, s1_ltx, if_true, if_false, Nat.add_zero, Nat.zero_add,  d_leF, d_leT, d_ltF, d_ltT, d_eqF, d_eqT]
      refine m_at hT ht hr (by omega) (m_at hT ht hs (by omega) ?_)
      refine ⟨fun e => ?_, fun e => ?_⟩
      · refine hk false ?_
        exact (decide_eq_false (fun z => e (z i (by omega)))).symm
      · refine hk true ?_
        refine (decide_eq_true (fun c hc => ?_)).symm
        by_cases e2 : c = i
        · subst e2; exact e
        · exact of_decide_eq_true hI.symm c (by omega)
theorem m_alike {t r n : Nat} {post : Int32 → Prop} (hT : Tm I T) (hwT : Tw T) (ht : t < 4) (hr : r < 10) (hn : n ≤ 10) (h : post (nI (ct (al T t r) n))) : wX8_alike (nI t) (nI r) (nI n) I post := by
  unfold wX8_alike
  refine lp (fun f i (m : Nat) => wX8_alike_6 (nI t) (nI r) (nI n) I post f (nI m) (nI i)) (fun i m => m = ct (al T t r) i) n ?_ ?_ 0 0 (Nat.zero_le _) rfl
  · intro f m hm
    rw [← hm] at h
    show wX8_alike_6 _ _ _ _ _ _ _ _
    rw [wX8_alike_6]
    simp (disch := omega) only [fa_lit, nI_ltI, nI_leI, nI_eq, nI_add, pk_mul, nI_clamp, vp_in_nI, l_uk, l_n1, l_n1e, l_n1e2, l_n1l, l_n1l2, l_n1l3, not_true_eq_false, not_false_eq_true, true_implies, false_implies, true_and, and_true, and_self, forall_eq, bI_t, bI_f, Bool.false_eq_true, or_true, true_or, or_false, false_or, s1_ltx, if_true, if_false, Nat.add_zero, Nat.zero_add,  d_leF, d_leT, d_ltF, d_ltT, d_eqF, d_eqT]
    exact h
  · intro f i m hi hm hk
    show wX8_alike_6 _ _ _ _ _ _ _ _
    rw [wX8_alike_6]
    simp (disch := omega) only [fa_lit, nI_ltI, nI_leI, nI_eq, nI_add, pk_mul, nI_clamp, vp_in_nI, l_uk, l_n1, l_n1e, l_n1e2, l_n1l, l_n1l2, l_n1l3, not_true_eq_false, not_false_eq_true, true_implies, false_implies, true_and, and_true, and_self, forall_eq, bI_t, bI_f, Bool.false_eq_true, or_true, true_or, or_false, false_or, s1_ltx, if_true, if_false, Nat.add_zero, Nat.zero_add,  d_leF, d_leT, d_ltF, d_ltT, d_eqF, d_eqT]
    refine m_isRowSame hT hwT ht hr (by omega) ?_
    cases e : al T t r i
    · simp (disch := omega) only [fa_lit, nI_ltI, nI_leI, nI_eq, nI_add, pk_mul, nI_clamp, vp_in_nI, l_uk, l_n1, l_n1e, l_n1e2, l_n1l, l_n1l2, l_n1l3, not_true_eq_false, not_false_eq_true, true_implies, false_implies, true_and, and_true, and_self, forall_eq, bI_t, bI_f, Bool.false_eq_true, or_true, true_or, or_false, false_or, s1_ltx, if_true, if_false, Nat.add_zero, Nat.zero_add,  d_leF, d_leT, d_ltF, d_ltT, d_eqF, d_eqT]
      exact hk m (by rw [ct_s, e, hm]; rfl)
    · simp (disch := omega) only [fa_lit, nI_ltI, nI_leI, nI_eq, nI_add, pk_mul, nI_clamp, vp_in_nI, l_uk, l_n1, l_n1e, l_n1e2, l_n1l, l_n1l2, l_n1l3, not_true_eq_false, not_false_eq_true, true_implies, false_implies, true_and, and_true, and_self, forall_eq, bI_t, bI_f, Bool.false_eq_true, or_true, true_or, or_false, false_or, s1_ltx, if_true, if_false, Nat.add_zero, Nat.zero_add,  d_leF, d_leT, d_ltF, d_ltT, d_eqF, d_eqT]
      exact hk (m + 1) (by rw [ct_s, e, hm]; rfl)
theorem m_meet {r s : Nat} {post : Int32 → Prop} (hT : Tm I T) (hwT : Tw T) (hV : Vm I V) (hw : Vw T V) (hv : v < V.length) (hr : r < T.2.2.1 (vq V v).1) (hs : s < T.2.2.1 (vq V v).2.1) (h : post (bI (mts T (vq V v) r s))) : wX8_meet (nI v) (nI r) (nI s) I post := by
  have hl := hw.1
  obtain ⟨q1, q2, q3, q4⟩ := hV.2 v hv
  obtain ⟨b1, b2, b3, b4, b5, b6⟩ := hw.b hwT hv
  unfold wX8_meet
  simp (disch := omega) only [q1, q2, q3, q4, fa_lit, nI_ltI, nI_leI, nI_eq, nI_add, pk_mul, nI_clamp, vp_in_nI, l_uk, l_n1, l_n1e, l_n1e2, l_n1l, l_n1l2, l_n1l3, not_true_eq_false, not_false_eq_true, true_implies, false_implies, true_and, and_true, and_self, forall_eq, bI_t, bI_f, Bool.false_eq_true, or_true, true_or, or_false, false_or, s1_ltx, if_true, if_false, Nat.add_zero, Nat.zero_add,  d_leF, d_leT, d_ltF, d_ltT, d_eqF, d_eqT]
  refine m_at hT b1 (by omega) b5 (m_at hT b2 (by omega) b6 (m_isTrue (k := 0) (by omega) ?_))
  exact ⟨bI_01 _, h⟩
theorem m_different_54 {post : Int32 → QI → Prop} (hT : Tm I T) (hwT : Tw T) (hV : Vm I V) (hw : Vw T V) (hv : v < V.length) (h : post (nI (dff T (vq V v))) I) : ∃ f, wX8_different_54 (nI v) post f (nI (vq V v).1) (nI (vq V v).2.1) 0 0 I := by
  obtain ⟨b1, b2, b3, b4, b5, b6⟩ := hw.b hwT hv
  refine lp (fun f i (n : Nat) => wX8_different_54 (nI v) post f (nI (vq V v).1) (nI (vq V v).2.1) (nI n) (nI i) I) (fun i n => n = sm (fun r => if fsA T (vq V v).1 r then prt T (vq V v) r else 0) i) (T.2.2.1 (vq V v).1) ?_ ?_ 0 0 (Nat.zero_le _) rfl
  · intro f n hn
    unfold dff at h
    rw [← hn] at h
    show wX8_different_54 _ _ _ _ _ _ _ _
    rw [wX8_different_54]
    simp (disch := omega) only [(hT.t b1).2, fa_lit, nI_ltI, nI_leI, nI_eq, nI_add, pk_mul, nI_clamp, vp_in_nI, l_uk, l_n1, l_n1e, l_n1e2, l_n1l, l_n1l2, l_n1l3, not_true_eq_false, not_false_eq_true, true_implies, false_implies, true_and, and_true, and_self, forall_eq, bI_t, bI_f, Bool.false_eq_true, or_true, true_or, or_false, false_or, s1_ltx, if_true, if_false, Nat.add_zero, Nat.zero_add,  d_leF, d_leT, d_ltF, d_ltT, d_eqF, d_eqT]
    exact h
  · intro f i n hi hn hk
    show wX8_different_54 _ _ _ _ _ _ _ _
    rw [wX8_different_54]
    simp (disch := omega) only [(hT.t b1).2, fa_lit, nI_ltI, nI_leI, nI_eq, nI_add, pk_mul, nI_clamp, vp_in_nI, l_uk, l_n1, l_n1e, l_n1e2, l_n1l, l_n1l2, l_n1l3, not_true_eq_false, not_false_eq_true, true_implies, false_implies, true_and, and_true, and_self, forall_eq, bI_t, bI_f, Bool.false_eq_true, or_true, true_or, or_false, false_or, s1_ltx, if_true, if_false, Nat.add_zero, Nat.zero_add,  d_leF, d_leT, d_ltF, d_ltT, d_eqF, d_eqT]
    refine lp (fun g j (m : Nat) => wX8_different_68 (nI v) (fun u17 u18 u19 u20 I21 => (wX8_different_54 (nI v) post f u17 u18 u19 (u20 + nI 1) I21)) post g (nI (vq V v).1) (nI (vq V v).2.1) (nI m) (nI i) (nI j) I) (fun j m => m = n + (if fsA T (vq V v).1 i then ct (fun s => fsA T (vq V v).2.1 s && mts T (vq V v) i s) j else 0)) (T.2.2.1 (vq V v).2.1) ?_ ?_ 0 n (Nat.zero_le _) (by split <;> rfl)
    · intro g m hm
      show wX8_different_68 _ _ _ _ _ _ _ _ _ _
      rw [wX8_different_68]
      simp (disch := omega) only [(hT.t b2).2, fa_lit, nI_ltI, nI_leI, nI_eq, nI_add, pk_mul, nI_clamp, vp_in_nI, l_uk, l_n1, l_n1e, l_n1e2, l_n1l, l_n1l2, l_n1l3, not_true_eq_false, not_false_eq_true, true_implies, false_implies, true_and, and_true, and_self, forall_eq, bI_t, bI_f, Bool.false_eq_true, or_true, true_or, or_false, false_or, s1_ltx, if_true, if_false, Nat.add_zero, Nat.zero_add,  d_leF, d_leT, d_ltF, d_ltT, d_eqF, d_eqT]
      exact hk m (by rw [sm_s, hm, hn]; rfl)
    · intro g j m hj hm hk2
      show wX8_different_68 _ _ _ _ _ _ _ _ _ _
      rw [wX8_different_68]
      simp (disch := omega) only [(hT.t b2).2, fa_lit, nI_ltI, nI_leI, nI_eq, nI_add, pk_mul, nI_clamp, vp_in_nI, l_uk, l_n1, l_n1e, l_n1e2, l_n1l, l_n1l2, l_n1l3, not_true_eq_false, not_false_eq_true, true_implies, false_implies, true_and, and_true, and_self, forall_eq, bI_t, bI_f, Bool.false_eq_true, or_true, true_or, or_false, false_or, s1_ltx, if_true, if_false, Nat.add_zero, Nat.zero_add,  d_leF, d_leT, d_ltF, d_ltT, d_eqF, d_eqT]
      refine m_meet hT hwT hV hw hv hi hj ?_
      rw [ct_s] at hk2
      cases e1 : mts T (vq V v) i j
      · simp (disch := omega) only [fa_lit, nI_ltI, nI_leI, nI_eq, nI_add, pk_mul, nI_clamp, vp_in_nI, l_uk, l_n1, l_n1e, l_n1e2, l_n1l, l_n1l2, l_n1l3, not_true_eq_false, not_false_eq_true, true_implies, false_implies, true_and, and_true, and_self, forall_eq, bI_t, bI_f, Bool.false_eq_true, or_true, true_or, or_false, false_or, s1_ltx, if_true, if_false, Nat.add_zero, Nat.zero_add,  d_leF, d_leT, d_ltF, d_ltT, d_eqF, d_eqT]
        refine hk2 m ?_
        rw [hm, e1, Bool.and_false]
        rfl
      · simp (disch := omega) only [fa_lit, nI_ltI, nI_leI, nI_eq, nI_add, pk_mul, nI_clamp, vp_in_nI, l_uk, l_n1, l_n1e, l_n1e2, l_n1l, l_n1l2, l_n1l3, not_true_eq_false, not_false_eq_true, true_implies, false_implies, true_and, and_true, and_self, forall_eq, bI_t, bI_f, Bool.false_eq_true, or_true, true_or, or_false, false_or, s1_ltx, if_true, if_false, Nat.add_zero, Nat.zero_add,  d_leF, d_leT, d_ltF, d_ltT, d_eqF, d_eqT]
        refine m_alike hT hwT b1 (by omega) (by omega) ?_
        have c1 := ct_le (al T (vq V v).1 i) i
        have c2 := ct_le (al T (vq V v).2.1 j) j
        by_cases e2 : ct (al T (vq V v).1 i) i = 0
        · have e3 : fsA T (vq V v).1 i = true := decide_eq_true e2
          simp (disch := omega) only [e2, fa_lit, nI_ltI, nI_leI, nI_eq, nI_add, pk_mul, nI_clamp, vp_in_nI, l_uk, l_n1, l_n1e, l_n1e2, l_n1l, l_n1l2, l_n1l3, not_true_eq_false, not_false_eq_true, true_implies, false_implies, true_and, and_true, and_self, forall_eq, bI_t, bI_f, Bool.false_eq_true, or_true, true_or, or_false, false_or, s1_ltx, if_true, if_false, Nat.add_zero, Nat.zero_add,  d_leF, d_leT, d_ltF, d_ltT, d_eqF, d_eqT]
          refine m_alike hT hwT b2 (by omega) (by omega) ?_
          by_cases e4 : ct (al T (vq V v).2.1 j) j = 0
          · have e5 : fsA T (vq V v).2.1 j = true := decide_eq_true e4
            simp (disch := omega) only [e4, fa_lit, nI_ltI, nI_leI, nI_eq, nI_add, pk_mul, nI_clamp, vp_in_nI, l_uk, l_n1, l_n1e, l_n1e2, l_n1l, l_n1l2, l_n1l3, not_true_eq_false, not_false_eq_true, true_implies, false_implies, true_and, and_true, and_self, forall_eq, bI_t, bI_f, Bool.false_eq_true, or_true, true_or, or_false, false_or, s1_ltx, if_true, if_false, Nat.add_zero, Nat.zero_add,  d_leF, d_leT, d_ltF, d_ltT, d_eqF, d_eqT]
            refine hk2 (m + 1) ?_
            rw [hm, e1, e3, e5]
            rfl
          · have e5 : fsA T (vq V v).2.1 j = false := decide_eq_false e4
            simp (disch := omega) only [fa_lit, nI_ltI, nI_leI, nI_eq, nI_add, pk_mul, nI_clamp, vp_in_nI, l_uk, l_n1, l_n1e, l_n1e2, l_n1l, l_n1l2, l_n1l3, not_true_eq_false, not_false_eq_true, true_implies, false_implies, true_and, and_true, and_self, forall_eq, bI_t, bI_f, Bool.false_eq_true, or_true, true_or, or_false, false_or, s1_ltx, if_true, if_false, Nat.add_zero, Nat.zero_add,  d_leF, d_leT, d_ltF, d_ltT, d_eqF, d_eqT]
            refine hk2 m ?_
            rw [hm, e1, e3, e5]
            rfl
        · have e3 : fsA T (vq V v).1 i = false := decide_eq_false e2
          simp (disch := omega) only [fa_lit, nI_ltI, nI_leI, nI_eq, nI_add, pk_mul, nI_clamp, vp_in_nI, l_uk, l_n1, l_n1e, l_n1e2, l_n1l, l_n1l2, l_n1l3, not_true_eq_false, not_false_eq_true, true_implies, false_implies, true_and, and_true, and_self, forall_eq, bI_t, bI_f, Bool.false_eq_true, or_true, true_or, or_false, false_or, s1_ltx, if_true, if_false, Nat.add_zero, Nat.zero_add,  d_leF, d_leT, d_ltF, d_ltT, d_eqF, d_eqT]
          refine hk2 m ?_
          rw [hm, e3]
          rfl
end VV
