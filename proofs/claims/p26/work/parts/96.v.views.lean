/-! pure: views: the class and the reference -/
abbrev Q4 : Type := Nat × Nat × Nat × Nat
def vq (V : List Q4) (v : Nat) : Q4 := V.getD v (0, 0, 0, 0)
def Vc (I : QI) (V : List Q4) : Prop := I 46 5 = nI V.length ∧ ∀ v, v < V.length → I 47 v = nI (vq V v).1 ∧ I 48 v = nI (vq V v).2.1 ∧ I 49 v = nI (vq V v).2.2.1 ∧ I 50 v = nI (vq V v).2.2.2
def Vm (I : QI) (V : List Q4) : Prop := I 51 16 = nI V.length ∧ ∀ v, v < V.length → I 63 (4 * v) = nI (vq V v).1 ∧ I 63 (4 * v + 1) = nI (vq V v).2.2.1 ∧ I 63 (4 * v + 2) = nI (vq V v).2.1 ∧ I 63 (4 * v + 3) = nI (vq V v).2.2.2
/-- two tables and a column of each -/
def q4W (T : QT) (q : Q4) : Prop := q.1 < T.1 ∧ q.2.1 < T.1 ∧ q.2.2.1 < T.2.1 q.1 ∧ q.2.2.2 < T.2.1 q.2.1
def Vw (T : QT) (V : List Q4) : Prop := V.length ≤ 4 ∧ ∀ v, v < V.length → q4W T (vq V v)
def mts (T : QT) (q : Q4) (r s : Nat) : Bool := isT 0 (T.2.2.2 q.1 r q.2.2.1) (T.2.2.2 q.2.1 s q.2.2.2)
theorem isT0 (x y : Int32) : isT 0 x y = decide (¬ x = UK ∧ y = x) := by
  unfold isT hol
  rw [if_neg (by omega), if_neg (by omega), if_pos rfl]
  by_cases e : x = UK
  · simp [e]
  · by_cases e2 : y = x
    · subst e2
      simp [e]
    · have e3 : ¬ x = y := fun z => e2 z.symm
      simp [e, e2, e3]
section VV
variable {I : QI} {T : QT} {V : List Q4} {v : Nat}
theorem p_vhas {post : Int32 → Prop} (hV : Vc I V) (hl : V.length ≤ 4) (hv : v < V.length) (h : post (nI 1)) : wX6_has (nI v) I post := by
  unfold wX6_has
  simp (disch := omega) only [hV.1, fa_lit, nI_ltI, nI_leI, nI_eq, nI_add, pk_mul, nI_clamp, vp_in_nI, l_uk, l_n1, l_n1e, l_n1e2, l_n1l, l_n1l2, l_n1l3, not_true_eq_false, not_false_eq_true, true_implies, false_implies, true_and, and_true, and_self, forall_eq, bI_t, bI_f, Bool.false_eq_true, or_true, true_or, or_false, false_or, s1_ltx, if_true, if_false, Nat.add_zero, Nat.zero_add,  d_leF, d_leT, d_ltF, d_ltT, d_eqF, d_eqT]
  exact h
theorem p_vhas_f {x : Int32} {post : Int32 → Prop} (hV : Vc I V) (hx : x < 0 ∨ nI V.length ≤ x) (h : post (nI 0)) : wX6_has x I post := by
  unfold wX6_has
  refine ⟨fun _ => h, fun e => ⟨fun _ => h, fun e2 => ?_⟩⟩
  rw [hV.1] at e2
  exact absurd hx (not_or.mpr ⟨e, e2⟩)
theorem p_vfirst {post : Option Nat → Prop} (hT : Tc I T) (hwT : Tw T) (hV : Vc I V) (hw : Vw T V) (hv : v < V.length) (h : post (some (vq V v).1)) : wX6_firstOf (nI v) I post := by
  have hl := hw.1
  have q := hV.2 v hv
  unfold wX6_firstOf
  refine p_vhas hV hl hv ?_
  simp (disch := omega) only [q.1, fa_lit, nI_ltI, nI_leI, nI_eq, nI_add, pk_mul, nI_clamp, vp_in_nI, l_uk, l_n1, l_n1e, l_n1e2, l_n1l, l_n1l2, l_n1l3, not_true_eq_false, not_false_eq_true, true_implies, false_implies, true_and, and_true, and_self, forall_eq, bI_t, bI_f, Bool.false_eq_true, or_true, true_or, or_false, false_or, s1_ltx, if_true, if_false, Nat.add_zero, Nat.zero_add,  d_leF, d_leT, d_ltF, d_ltT, d_eqF, d_eqT]
  exact find_t hT hwT (hw.2 v hv).1 (b_some h)
theorem p_vsecond {post : Option Nat → Prop} (hT : Tc I T) (hwT : Tw T) (hV : Vc I V) (hw : Vw T V) (hv : v < V.length) (h : post (some (vq V v).2.1)) : wX6_secondOf (nI v) I post := by
  have hl := hw.1
  have q := hV.2 v hv
  unfold wX6_secondOf
  refine p_vhas hV hl hv ?_
  simp (disch := omega) only [q.2.1, fa_lit, nI_ltI, nI_leI, nI_eq, nI_add, pk_mul, nI_clamp, vp_in_nI, l_uk, l_n1, l_n1e, l_n1e2, l_n1l, l_n1l2, l_n1l3, not_true_eq_false, not_false_eq_true, true_implies, false_implies, true_and, and_true, and_self, forall_eq, bI_t, bI_f, Bool.false_eq_true, or_true, true_or, or_false, false_or, s1_ltx, if_true, if_false, Nat.add_zero, Nat.zero_add,  d_leF, d_leT, d_ltF, d_ltT, d_eqF, d_eqT]
  exact find_t hT hwT (hw.2 v hv).2.1 (b_some h)
theorem p_vfirst_f {x : Int32} {post : Option Nat → Prop} (hV : Vc I V) (hx : x < 0 ∨ nI V.length ≤ x) (h : post none) : wX6_firstOf x I post := by
  unfold wX6_firstOf
  refine p_vhas_f hV hx ?_
  exact ⟨fun _ => h, fun e => absurd rfl e⟩
theorem p_vsecond_f {x : Int32} {post : Option Nat → Prop} (hV : Vc I V) (hx : x < 0 ∨ nI V.length ≤ x) (h : post none) : wX6_secondOf x I post := by
  unfold wX6_secondOf
  refine p_vhas_f hV hx ?_
  exact ⟨fun _ => h, fun e => absurd rfl e⟩
theorem p_areEqual {x y : Int32} {post : Int32 → Prop} (h : post (bI (isT 0 x y))) : wX7_areEqual x y I post := by
  rw [isT0] at h
  unfold wX7_areEqual
  refine ⟨fun e => ?_, fun e => ⟨fun e2 => ?_, fun e2 => ?_⟩⟩
  · rw [decide_eq_false (fun z => z.1 e)] at h
    exact h
  · rw [decide_eq_false (fun z => e2 z.2.symm)] at h
    exact h
  · rw [decide_eq_true ⟨e, e2.symm⟩] at h
    exact h
theorem Vw.b {v : Nat} (hw : Vw T V) (hwT : Tw T) (hv : v < V.length) : (vq V v).1 < 4 ∧ (vq V v).2.1 < 4 ∧ T.2.2.1 (vq V v).1 ≤ 10 ∧ T.2.2.1 (vq V v).2.1 ≤ 10 ∧ (vq V v).2.2.1 < 3 ∧ (vq V v).2.2.2 < 3 := by
  obtain ⟨a, b, c, d⟩ := hw.2 v hv
  obtain ⟨x1, x2, x3, x4⟩ := hwT.l a
  obtain ⟨y1, y2, y3, y4⟩ := hwT.l b
  exact ⟨x1, y1, x3, y3, by omega, by omega⟩
theorem p_meet {r s : Nat} {post : Int32 → Prop} (hT : Tc I T) (hwT : Tw T) (hV : Vc I V) (hw : Vw T V) (hv : v < V.length) (hr : r < T.2.2.1 (vq V v).1) (hs : s < T.2.2.1 (vq V v).2.1) (h : post (bI (mts T (vq V v) r s))) : wX6_meet (nI v) (nI r) (nI s) I post := by
  have hl := hw.1
  have q := hV.2 v hv
  obtain ⟨b1, b2, b3, b4, b5, b6⟩ := hw.b hwT hv
  unfold wX6_meet
  refine p_vfirst hT hwT hV hw hv (b_some (p_vsecond hT hwT hV hw hv (b_some (p_vhas hV hl hv ?_))))
  simp (disch := omega) only [q.2.2.1, q.2.2.2, fa_lit, nI_ltI, nI_leI, nI_eq, nI_add, pk_mul, nI_clamp, vp_in_nI, l_uk, l_n1, l_n1e, l_n1e2, l_n1l, l_n1l2, l_n1l3, not_true_eq_false, not_false_eq_true, true_implies, false_implies, true_and, and_true, and_self, forall_eq, bI_t, bI_f, Bool.false_eq_true, or_true, true_or, or_false, false_or, s1_ltx, if_true, if_false, Nat.add_zero, Nat.zero_add,  d_leF, d_leT, d_ltF, d_ltT, d_eqF, d_eqT]
  refine p_value hT hwT b1 hr (hw.2 v hv).2.2.1 (p_value hT hwT b2 hs (hw.2 v hv).2.2.2 ?_)
  exact p_areEqual ⟨bI_01 _, h⟩
theorem p_timesOf {r s : Nat} {post : Int32 → Prop} (hT : Tc I T) (hwT : Tw T) (hV : Vc I V) (hw : Vw T V) (hv : v < V.length) (hr : r < T.2.2.1 (vq V v).1) (hs : s < T.2.2.1 (vq V v).2.1) (h : post (nI (if mts T (vq V v) r s then ct (al T (vq V v).1 r) (T.2.2.1 (vq V v).1) * ct (al T (vq V v).2.1 s) (T.2.2.1 (vq V v).2.1) else 0))) : wX6_timesOf (nI v) (nI r) (nI s) I post := by
  obtain ⟨b1, b2, b3, b4, b5, b6⟩ := hw.b hwT hv
  unfold wX6_timesOf
  refine p_vfirst hT hwT hV hw hv (b_some (p_vsecond hT hwT hV hw hv (b_some ?_)))
  refine p_meet hT hwT hV hw hv hr hs ?_
  cases e : mts T (vq V v) r s
  · rw [e] at h
    simp (disch := omega) only [fa_lit, nI_ltI, nI_leI, nI_eq, nI_add, pk_mul, nI_clamp, vp_in_nI, l_uk, l_n1, l_n1e, l_n1e2, l_n1l, l_n1l2, l_n1l3, not_true_eq_false, not_false_eq_true, true_implies, false_implies, true_and, and_true, and_self, forall_eq, bI_t, bI_f, Bool.false_eq_true, or_true, true_or, or_false, false_or, s1_ltx, if_true, if_false, Nat.add_zero, Nat.zero_add,  d_leF, d_leT, d_ltF, d_ltT, d_eqF, d_eqT]
    exact h
  · rw [e] at h
    simp (disch := omega) only [fa_lit, nI_ltI, nI_leI, nI_eq, nI_add, pk_mul, nI_clamp, vp_in_nI, l_uk, l_n1, l_n1e, l_n1e2, l_n1l, l_n1l2, l_n1l3, not_true_eq_false, not_false_eq_true, true_implies, false_implies, true_and, and_true, and_self, forall_eq, bI_t, bI_f, Bool.false_eq_true, or_true, true_or, or_false, false_or, s1_ltx, if_true, if_false, Nat.add_zero, Nat.zero_add,  d_leF, d_leT, d_ltF, d_ltT, d_eqF, d_eqT]
    refine p_countAlike hT hwT b1 hr (p_countAlike hT hwT b2 hs ?_)
    rw [pk_mul]
    exact h
def fsA (T : QT) (t r : Nat) : Bool := decide (ct (al T t r) r = 0)
def prt (T : QT) (q : Q4) (r : Nat) : Nat := ct (fun s => fsA T q.2.1 s && mts T q r s) (T.2.2.1 q.2.1)
def dff (T : QT) (q : Q4) : Nat := sm (fun r => if fsA T q.1 r then prt T q r else 0) (T.2.2.1 q.1)
theorem p_countPartners {r : Nat} {post : Int32 → Prop} (hT : Tc I T) (hwT : Tw T) (hV : Vc I V) (hw : Vw T V) (hv : v < V.length) (hr : r < T.2.2.1 (vq V v).1) (h : post (nI (prt T (vq V v) r))) : wX6_countPartners (nI v) (nI r) I post := by
  obtain ⟨b1, b2, b3, b4, b5, b6⟩ := hw.b hwT hv
  unfold wX6_countPartners
  refine p_vsecond hT hwT hV hw hv (b_some ?_)
  refine lp (fun f i (n : Nat) => wX6_countPartners_12_1 (nI v) (nI r) (vq V v).2.1 I post f (nI n) (nI i)) (fun i n => n = ct (fun s => fsA T (vq V v).2.1 s && mts T (vq V v) r s) i) (T.2.2.1 (vq V v).2.1) ?_ ?_ 0 0 (Nat.zero_le _) rfl
  · intro f n hn
    unfold prt at h
    rw [← hn] at h
    show wX6_countPartners_12_1 _ _ _ _ _ _ _ _
    rw [wX6_countPartners_12_1]
    unfold wX5_count
    simp (disch := omega) only [(hT.t b2).2, fa_lit, nI_ltI, nI_leI, nI_eq, nI_add, pk_mul, nI_clamp, vp_in_nI, l_uk, l_n1, l_n1e, l_n1e2, l_n1l, l_n1l2, l_n1l3, not_true_eq_false, not_false_eq_true, true_implies, false_implies, true_and, and_true, and_self, forall_eq, bI_t, bI_f, Bool.false_eq_true, or_true, true_or, or_false, false_or, s1_ltx, if_true, if_false, Nat.add_zero, Nat.zero_add,  d_leF, d_leT, d_ltF, d_ltT, d_eqF, d_eqT]
    exact h
  · intro f i n hi hn hk
    show wX6_countPartners_12_1 _ _ _ _ _ _ _ _
    rw [wX6_countPartners_12_1]
    unfold wX5_count
    simp (disch := omega) only [(hT.t b2).2, fa_lit, nI_ltI, nI_leI, nI_eq, nI_add, pk_mul, nI_clamp, vp_in_nI, l_uk, l_n1, l_n1e, l_n1e2, l_n1l, l_n1l2, l_n1l3, not_true_eq_false, not_false_eq_true, true_implies, false_implies, true_and, and_true, and_self, forall_eq, bI_t, bI_f, Bool.false_eq_true, or_true, true_or, or_false, false_or, s1_ltx, if_true, if_false, Nat.add_zero, Nat.zero_add,  d_leF, d_leT, d_ltF, d_ltT, d_eqF, d_eqT]
    refine p_isFirstAlike hT hwT b2 hi ?_
    have e9 : decide (ct (al T (vq V v).2.1 i) i = 0) = fsA T (vq V v).2.1 i := rfl
    rw [e9]
    cases e : fsA T (vq V v).2.1 i
    · simp (disch := omega) only [fa_lit, nI_ltI, nI_leI, nI_eq, nI_add, pk_mul, nI_clamp, vp_in_nI, l_uk, l_n1, l_n1e, l_n1e2, l_n1l, l_n1l2, l_n1l3, not_true_eq_false, not_false_eq_true, true_implies, false_implies, true_and, and_true, and_self, forall_eq, bI_t, bI_f, Bool.false_eq_true, or_true, true_or, or_false, false_or, s1_ltx, if_true, if_false, Nat.add_zero, Nat.zero_add,  d_leF, d_leT, d_ltF, d_ltT, d_eqF, d_eqT]
      exact hk n (by rw [ct_s, e, hn]; rfl)
    · simp (disch := omega) only [fa_lit, nI_ltI, nI_leI, nI_eq, nI_add, pk_mul, nI_clamp, vp_in_nI, l_uk, l_n1, l_n1e, l_n1e2, l_n1l, l_n1l2, l_n1l3, not_true_eq_false, not_false_eq_true, true_implies, false_implies, true_and, and_true, and_self, forall_eq, bI_t, bI_f, Bool.false_eq_true, or_true, true_or, or_false, false_or, s1_ltx, if_true, if_false, Nat.add_zero, Nat.zero_add,  d_leF, d_leT, d_ltF, d_ltT, d_eqF, d_eqT]
      refine p_meet hT hwT hV hw hv hr hi ?_
      cases e2 : mts T (vq V v) r i
      · simp (disch := omega) only [fa_lit, nI_ltI, nI_leI, nI_eq, nI_add, pk_mul, nI_clamp, vp_in_nI, l_uk, l_n1, l_n1e, l_n1e2, l_n1l, l_n1l2, l_n1l3, not_true_eq_false, not_false_eq_true, true_implies, false_implies, true_and, and_true, and_self, forall_eq, bI_t, bI_f, Bool.false_eq_true, or_true, true_or, or_false, false_or, s1_ltx, if_true, if_false, Nat.add_zero, Nat.zero_add,  d_leF, d_leT, d_ltF, d_ltT, d_eqF, d_eqT]
        exact hk n (by rw [ct_s, e, e2, hn]; rfl)
      · simp (disch := omega) only [fa_lit, nI_ltI, nI_leI, nI_eq, nI_add, pk_mul, nI_clamp, vp_in_nI, l_uk, l_n1, l_n1e, l_n1e2, l_n1l, l_n1l2, l_n1l3, not_true_eq_false, not_false_eq_true, true_implies, false_implies, true_and, and_true, and_self, forall_eq, bI_t, bI_f, Bool.false_eq_true, or_true, true_or, or_false, false_or, s1_ltx, if_true, if_false, Nat.add_zero, Nat.zero_add,  d_leF, d_leT, d_ltF, d_ltT, d_eqF, d_eqT]
        exact hk (n + 1) (by rw [ct_s, e, e2, hn]; rfl)
theorem p_differentRows {post : Int32 → Prop} (hT : Tc I T) (hwT : Tw T) (hV : Vc I V) (hw : Vw T V) (hv : v < V.length) (h : post (nI (dff T (vq V v)))) : wX6_differentRows (nI v) I post := by
  obtain ⟨b1, b2, b3, b4, b5, b6⟩ := hw.b hwT hv
  unfold wX6_differentRows
  refine p_vfirst hT hwT hV hw hv (b_some ?_)
  refine lp (fun f i (n : Nat) => wX6_differentRows_11_1 (nI v) (vq V v).1 I post f (nI n) (nI i)) (fun i n => n = sm (fun r => if fsA T (vq V v).1 r then prt T (vq V v) r else 0) i) (T.2.2.1 (vq V v).1) ?_ ?_ 0 0 (Nat.zero_le _) rfl
  · intro f n hn
    unfold dff at h
    rw [← hn] at h
    show wX6_differentRows_11_1 _ _ _ _ _ _ _
    rw [wX6_differentRows_11_1]
    unfold wX5_count
    simp (disch := omega) only [(hT.t b1).2, fa_lit, nI_ltI, nI_leI, nI_eq, nI_add, pk_mul, nI_clamp, vp_in_nI, l_uk, l_n1, l_n1e, l_n1e2, l_n1l, l_n1l2, l_n1l3, not_true_eq_false, not_false_eq_true, true_implies, false_implies, true_and, and_true, and_self, forall_eq, bI_t, bI_f, Bool.false_eq_true, or_true, true_or, or_false, false_or, s1_ltx, if_true, if_false, Nat.add_zero, Nat.zero_add,  d_leF, d_leT, d_ltF, d_ltT, d_eqF, d_eqT]
    exact h
  · intro f i n hi hn hk
    show wX6_differentRows_11_1 _ _ _ _ _ _ _
    rw [wX6_differentRows_11_1]
    unfold wX5_count
    simp (disch := omega) only [(hT.t b1).2, fa_lit, nI_ltI, nI_leI, nI_eq, nI_add, pk_mul, nI_clamp, vp_in_nI, l_uk, l_n1, l_n1e, l_n1e2, l_n1l, l_n1l2, l_n1l3, not_true_eq_false, not_false_eq_true, true_implies, false_implies, true_and, and_true, and_self, forall_eq, bI_t, bI_f, Bool.false_eq_true, or_true, true_or, or_false, false_or, s1_ltx, if_true, if_false, Nat.add_zero, Nat.zero_add,  d_leF, d_leT, d_ltF, d_ltT, d_eqF, d_eqT]
    refine p_isFirstAlike hT hwT b1 hi ?_
    have e9 : decide (ct (al T (vq V v).1 i) i = 0) = fsA T (vq V v).1 i := rfl
    rw [e9]
    cases e : fsA T (vq V v).1 i
    · simp (disch := omega) only [fa_lit, nI_ltI, nI_leI, nI_eq, nI_add, pk_mul, nI_clamp, vp_in_nI, l_uk, l_n1, l_n1e, l_n1e2, l_n1l, l_n1l2, l_n1l3, not_true_eq_false, not_false_eq_true, true_implies, false_implies, true_and, and_true, and_self, forall_eq, bI_t, bI_f, Bool.false_eq_true, or_true, true_or, or_false, false_or, s1_ltx, if_true, if_false, Nat.add_zero, Nat.zero_add,  d_leF, d_leT, d_ltF, d_ltT, d_eqF, d_eqT]
      exact hk n (by rw [sm_s, e, hn]; rfl)
    · simp (disch := omega) only [fa_lit, nI_ltI, nI_leI, nI_eq, nI_add, pk_mul, nI_clamp, vp_in_nI, l_uk, l_n1, l_n1e, l_n1e2, l_n1l, l_n1l2, l_n1l3, not_true_eq_false, not_false_eq_true, true_implies, false_implies, true_and, and_true, and_self, forall_eq, bI_t, bI_f, Bool.false_eq_true, or_true, true_or, or_false, false_or, s1_ltx, if_true, if_false, Nat.add_zero, Nat.zero_add,  d_leF, d_leT, d_ltF, d_ltT, d_eqF, d_eqT]
      refine p_countPartners hT hwT hV hw hv hi ?_
      simp (disch := omega) only [fa_lit, nI_ltI, nI_leI, nI_eq, nI_add, pk_mul, nI_clamp, vp_in_nI, l_uk, l_n1, l_n1e, l_n1e2, l_n1l, l_n1l2, l_n1l3, not_true_eq_false, not_false_eq_true, true_implies, false_implies, true_and, and_true, and_self, forall_eq, bI_t, bI_f, Bool.false_eq_true, or_true, true_or, or_false, false_or, s1_ltx, if_true, if_false, Nat.add_zero, Nat.zero_add,  d_leF, d_leT, d_ltF, d_ltT, d_eqF, d_eqT]
      exact hk (n + prt T (vq V v) i) (by rw [sm_s, e, hn]; rfl)
end VV
