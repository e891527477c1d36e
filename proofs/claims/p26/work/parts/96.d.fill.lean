/-! pure: the class fills joins -/
def uks (w : Nat) : List Int32 := (List.range w).map (fun _ => UK)
theorem reg_lt {n m : Nat} (h : n < m) : n * 1200 + 1200 ≤ m * 1200 := by omega
theorem Wr.rd {I I2 : QI} {base k : Nat} {g : Nat → Int32} (h : Wr I I2 base k g) {n m w : Nat} {A : List (List Int32)} (hA : Hd I m A w) (hmn : m ≠ n) (hw6 : w ≤ 6) (hb : n * 1200 ≤ base) (hb2 : base + k ≤ n * 1200 + 1200) : Hd I2 m A w := by
  refine ⟨by rw [h.1 25 (by omega)]; exact hA.1, hA.2.1, fun r2 hr2 h2 => ?_⟩
  rw [hA.2.2 r2 hr2 h2]
  refine rowAt_eq.mpr (fun c hc => (h.2.1 _ ?_).symm)
  rcases Nat.lt_or_gt_of_ne hmn with h3 | h3
  · refine Or.inl (Nat.lt_of_lt_of_le ?_ hb)
    have h5 := reg_lt h3
    exact Nat.lt_of_lt_of_le (by rw [Nat.add_assoc]; exact Nat.add_lt_add_left (show r2 * 6 + c < 1200 by clear hb2 h5; omega) _) h5
  · refine Or.inr (Nat.le_trans hb2 (Nat.le_trans (reg_lt h3) ?_))
    rw [Nat.add_assoc]
    exact Nat.le_add_right _ _
theorem Wr.tr {I I2 I3 : QI} {base k k2 : Nat} {g g2 g3 : Nat → Int32} (h : Wr I I2 base k g) (h2 : Wr I2 I3 (base + k) k2 g2) (e1 : ∀ c, c < k → g3 c = g c) (e2 : ∀ c, c < k2 → g3 (k + c) = g2 c) : Wr I I3 base (k + k2) g3 := by
  refine ⟨fun b hb => (h2.1 b hb).trans (h.1 b hb), fun j hj => ?_, fun c hc => ?_⟩
  · rw [h2.2.1 j (by omega)]
    exact h.2.1 j (by omega)
  · by_cases e : c < k
    · rw [h2.2.1 _ (by omega), h.2.2 c e, e1 c e]
    · have e3 := h2.2.2 (c - k) (by omega)
      rw [show base + k + (c - k) = base + c by omega] at e3
      rw [e3, ← e2 _ (by omega), show k + (c - k) = c by omega]
theorem p_copyPair_41 {I : QI} {n s r w m : Nat} {b' : Int32} {x : Int32} {A : List (List Int32)} (hm : m < 24) (hn : n < 24) (hmn : m ≠ n) (hA : Hd I m A w) (hw6 : w ≤ 6) (hs : s < A.length) (hr : r < 200) {K : Int32 → Int32 → Int32 → QI → Prop} {post : Int32 → QI → Prop} (h : ∀ I2, Wr I I2 (n * 1200 + r * 6) w (fun c => (A.getD s []).getD c UK) → K b' (nI w) (nI r) I2) : ∃ f, wX0_copyPair_41 (nI n) (nI s) x K post f (nI m) b' (nI w) (nI r) 0 I := by
  refine lp (fun f i (I2 : QI) => wX0_copyPair_41 (nI n) (nI s) x K post f (nI m) b' (nI w) (nI r) (nI i) I2) (fun i I2 => Wr I I2 (n * 1200 + r * 6) i (fun c => (A.getD s []).getD c UK)) w ?_ ?_ 0 I (Nat.zero_le _) (Wr.z _ _ _)
  · intro f I2 hI
    show wX0_copyPair_41 _ _ _ _ _ _ _ _ _ _ _ _
    rw [wX0_copyPair_41]
    simp (disch := omega) only [fa_lit, nI_ltI, nI_leI, nI_eq, nI_add, pk_mul, nI_clamp, vp_in_nI, l_uk, l_n1, l_n1e, l_n1e2, l_n1l, l_n1l2, l_n1l3, not_true_eq_false, not_false_eq_true, true_implies, false_implies, true_and, and_true, and_self, forall_eq, bI_t, bI_f, Bool.false_eq_true, or_true, true_or, or_false, false_or, s1_ltx, if_true, if_false, Nat.add_zero, Nat.zero_add,  d_leF, d_leT, d_ltF, d_ltT, d_eqF, d_eqT]
    exact h I2 hI
  · intro f i I2 hi hI hk
    show wX0_copyPair_41 _ _ _ _ _ _ _ _ _ _ _ _
    rw [wX0_copyPair_41]
    simp (disch := omega) only [fa_lit, nI_ltI, nI_leI, nI_eq, nI_add, pk_mul, nI_clamp, vp_in_nI, l_uk, l_n1, l_n1e, l_n1e2, l_n1l, l_n1l2, l_n1l3, not_true_eq_false, not_false_eq_true, true_implies, false_implies, true_and, and_true, and_self, forall_eq, bI_t, bI_f, Bool.false_eq_true, or_true, true_or, or_false, false_or, s1_ltx, if_true, if_false, Nat.add_zero, Nat.zero_add,  d_leF, d_leT, d_ltF, d_ltT, d_eqF, d_eqT]
    have e0 : r * 6 + i ≤ 1200 := by omega
    refine p_valueAt hm (hI.rd (n := n) hA hmn hw6 (Nat.le_add_right _ _) (by rw [Nat.add_assoc]; exact Nat.add_le_add_left e0 _)) hs hi hw6 ?_
    refine p_put hn hr (by omega) ?_
    exact hk _ hI.s
theorem p_copyPair_41n {I : QI} {n s w m : Nat} {b' : Int32} {x : Int32} {A : List (List Int32)} (hm : m < 24) (hA : Hd I m A w) (hw6 : w ≤ 6) (hs : s < A.length) {K : Int32 → Int32 → Int32 → QI → Prop} {post : Int32 → QI → Prop} (h : K b' (nI w) N1 I) : ∃ f, wX0_copyPair_41 (nI n) (nI s) x K post f (nI m) b' (nI w) N1 0 I := by
  refine lp (fun f i (_ : Unit) => wX0_copyPair_41 (nI n) (nI s) x K post f (nI m) b' (nI w) N1 (nI i) I) (fun i _ => True) w ?_ ?_ 0 () (Nat.zero_le _) trivial
  · intro f _ hI
    show wX0_copyPair_41 _ _ _ _ _ _ _ _ _ _ _ _
    rw [wX0_copyPair_41]
    simp (disch := omega) only [fa_lit, nI_ltI, nI_leI, nI_eq, nI_add, pk_mul, nI_clamp, vp_in_nI, l_uk, l_n1, l_n1e, l_n1e2, l_n1l, l_n1l2, l_n1l3, not_true_eq_false, not_false_eq_true, true_implies, false_implies, true_and, and_true, and_self, forall_eq, bI_t, bI_f, Bool.false_eq_true, or_true, true_or, or_false, false_or, s1_ltx, if_true, if_false, Nat.add_zero, Nat.zero_add,  d_leF, d_leT, d_ltF, d_ltT, d_eqF, d_eqT]
    exact h
  · intro f i _ hi hI hk
    show wX0_copyPair_41 _ _ _ _ _ _ _ _ _ _ _ _
    rw [wX0_copyPair_41]
    simp (disch := omega) only [fa_lit, nI_ltI, nI_leI, nI_eq, nI_add, pk_mul, nI_clamp, vp_in_nI, l_uk, l_n1, l_n1e, l_n1e2, l_n1l, l_n1l2, l_n1l3, not_true_eq_false, not_false_eq_true, true_implies, false_implies, true_and, and_true, and_self, forall_eq, bI_t, bI_f, Bool.false_eq_true, or_true, true_or, or_false, false_or, s1_ltx, if_true, if_false, Nat.add_zero, Nat.zero_add,  d_leF, d_leT, d_ltF, d_ltT, d_eqF, d_eqT]
    refine p_valueAt hm hA hs hi hw6 ?_
    refine p_put_n ?_
    exact hk () trivial
/-- the other row, or unknown values -/
def oth (B : List (List Int32)) (o : Option Nat) (w : Nat) : List Int32 := match o with
  | some s => B.getD s []
  | none => uks w
def oI (o : Option Nat) : Int32 := match o with
  | some s => nI s
  | none => N1
theorem uks_get {w c : Nat} : (uks w).getD c UK = UK := by
  unfold uks
  rw [List.getD_eq_getElem?_getD, List.getElem?_map]
  cases (List.range w)[c]? <;> rfl
theorem p_copyPair_75 {I : QI} {T : QT} {P : List Nd} (hP : Pc I P) (hw : Pw T P) {n r w wa m : Nat} {o : Option Nat} {y : Int32} {B : List (List Int32)} (hm : m < P.length) (hn : n < 24) (hmn : m ≠ n) (hB : Hd I m B w) (hwm : (nd P m).2.2.2.2.2.2 = w) (hw6 : wa + w ≤ 6) (hs : ∀ s, o = some s → s < B.length) (hr : r < 200) {K : Int32 → QI → Prop} {post : Int32 → QI → Prop} (h : ∀ I2, Wr I I2 (n * 1200 + r * 6 + wa) w (fun c => (oth B o w).getD c UK) → K (nI r) I2) : ∃ f, wX0_copyPair_75 (nI n) y (oI o) K post f (nI m) (nI wa) (nI r) 0 I := by
  have h24 := hw.1
  refine lp (fun f i (I2 : QI) => wX0_copyPair_75 (nI n) y (oI o) K post f (nI m) (nI wa) (nI r) (nI i) I2) (fun i I2 => Wr I I2 (n * 1200 + r * 6 + wa) i (fun c => (oth B o w).getD c UK)) w ?_ ?_ 0 I (Nat.zero_le _) (Wr.z _ _ _)
  · intro f I2 hI
    have hP2 : Pc I2 P := Pc_fr hP (fun b h1 h2 => hI.1 b (by omega))
    show wX0_copyPair_75 _ _ _ _ _ _ _ _ _ _ _
    rw [wX0_copyPair_75]
    refine p_widthOf hP2 hw hm ?_
    rw [hwm]
    simp (disch := omega) only [fa_lit, nI_ltI, nI_leI, nI_eq, nI_add, pk_mul, nI_clamp, vp_in_nI, l_uk, l_n1, l_n1e, l_n1e2, l_n1l, l_n1l2, l_n1l3, not_true_eq_false, not_false_eq_true, true_implies, false_implies, true_and, and_true, and_self, forall_eq, bI_t, bI_f, Bool.false_eq_true, or_true, true_or, or_false, false_or, s1_ltx, if_true, if_false, Nat.add_zero, Nat.zero_add,  d_leF, d_leT, d_ltF, d_ltT, d_eqF, d_eqT]
    exact h I2 hI
  · intro f i I2 hi hI hk
    have hP2 : Pc I2 P := Pc_fr hP (fun b h1 h2 => hI.1 b (by omega))
    have hI2 := hI.s
    show wX0_copyPair_75 _ _ _ _ _ _ _ _ _ _ _
    rw [wX0_copyPair_75]
    refine p_widthOf hP2 hw hm ?_
    rw [hwm]
    cases o with
    | none =>
      simp (disch := omega) only [oI, fa_lit, nI_ltI, nI_leI, nI_eq, nI_add, pk_mul, nI_clamp, vp_in_nI, l_uk, l_n1, l_n1e, l_n1e2, l_n1l, l_n1l2, l_n1l3, not_true_eq_false, not_false_eq_true, true_implies, false_implies, true_and, and_true, and_self, forall_eq, bI_t, bI_f, Bool.false_eq_true, or_true, true_or, or_false, false_or, s1_ltx, if_true, if_false, Nat.add_zero, Nat.zero_add,  d_leF, d_leT, d_ltF, d_ltT, d_eqF, d_eqT]
      refine p_put hn hr (by omega) ?_
      rw [← Nat.add_assoc]
      have e9 : (oth B none w).getD i UK = UK := uks_get
      rw [e9] at hI2
      exact hk _ hI2
    | some s =>
      have hs2 := hs s rfl
      have hB2 := hB.2.1
      simp (disch := omega) only [oI, fa_lit, nI_ltI, nI_leI, nI_eq, nI_add, pk_mul, nI_clamp, vp_in_nI, l_uk, l_n1, l_n1e, l_n1e2, l_n1l, l_n1l2, l_n1l3, not_true_eq_false, not_false_eq_true, true_implies, false_implies, true_and, and_true, and_self, forall_eq, bI_t, bI_f, Bool.false_eq_true, or_true, true_or, or_false, false_or, s1_ltx, if_true, if_false, Nat.add_zero, Nat.zero_add,  d_leF, d_leT, d_ltF, d_ltT, d_eqF, d_eqT]
      have e0 : r * 6 + (wa + i) ≤ 1200 := by omega
      refine p_valueAt (by omega) (hI.rd (n := n) hB hmn (by omega) (Nat.le_trans (Nat.le_add_right _ _) (Nat.le_add_right _ _)) (by rw [Nat.add_assoc, Nat.add_assoc]; exact Nat.add_le_add_left e0 _)) hs2 hi (by omega) ?_
      refine p_put hn hr (by omega) ?_
      rw [← Nat.add_assoc]
      exact hk _ hI2
theorem p_copyPair_75n {I : QI} {T : QT} {P : List Nd} (hP : Pc I P) (hw : Pw T P) {n w wa m : Nat} {o : Option Nat} {y : Int32} {B : List (List Int32)} (hm : m < P.length) (hB : Hd I m B w) (hwm : (nd P m).2.2.2.2.2.2 = w) (hw6 : wa + w ≤ 6) (hs : ∀ s, o = some s → s < B.length) {K : Int32 → QI → Prop} {post : Int32 → QI → Prop} (h : K N1 I) : ∃ f, wX0_copyPair_75 (nI n) y (oI o) K post f (nI m) (nI wa) N1 0 I := by
  have h24 := hw.1
  refine lp (fun f i (_ : Unit) => wX0_copyPair_75 (nI n) y (oI o) K post f (nI m) (nI wa) N1 (nI i) I) (fun i _ => True) w ?_ ?_ 0 () (Nat.zero_le _) trivial
  · intro f _ hI
    show wX0_copyPair_75 _ _ _ _ _ _ _ _ _ _ _
    rw [wX0_copyPair_75]
    refine p_widthOf hP hw hm ?_
    rw [hwm]
    simp (disch := omega) only [fa_lit, nI_ltI, nI_leI, nI_eq, nI_add, pk_mul, nI_clamp, vp_in_nI, l_uk, l_n1, l_n1e, l_n1e2, l_n1l, l_n1l2, l_n1l3, not_true_eq_false, not_false_eq_true, true_implies, false_implies, true_and, and_true, and_self, forall_eq, bI_t, bI_f, Bool.false_eq_true, or_true, true_or, or_false, false_or, s1_ltx, if_true, if_false, Nat.add_zero, Nat.zero_add,  d_leF, d_leT, d_ltF, d_ltT, d_eqF, d_eqT]
    exact h
  · intro f i _ hi hI hk
    show wX0_copyPair_75 _ _ _ _ _ _ _ _ _ _ _
    rw [wX0_copyPair_75]
    refine p_widthOf hP hw hm ?_
    rw [hwm]
    cases o with
    | none =>
      simp (disch := omega) only [oI, fa_lit, nI_ltI, nI_leI, nI_eq, nI_add, pk_mul, nI_clamp, vp_in_nI, l_uk, l_n1, l_n1e, l_n1e2, l_n1l, l_n1l2, l_n1l3, not_true_eq_false, not_false_eq_true, true_implies, false_implies, true_and, and_true, and_self, forall_eq, bI_t, bI_f, Bool.false_eq_true, or_true, true_or, or_false, false_or, s1_ltx, if_true, if_false, Nat.add_zero, Nat.zero_add,  d_leF, d_leT, d_ltF, d_ltT, d_eqF, d_eqT]
      exact p_put_n (hk () trivial)
    | some s =>
      have hs2 := hs s rfl
      have hB2 := hB.2.1
      simp (disch := omega) only [oI, fa_lit, nI_ltI, nI_leI, nI_eq, nI_add, pk_mul, nI_clamp, vp_in_nI, l_uk, l_n1, l_n1e, l_n1e2, l_n1l, l_n1l2, l_n1l3, not_true_eq_false, not_false_eq_true, true_implies, false_implies, true_and, and_true, and_self, forall_eq, bI_t, bI_f, Bool.false_eq_true, or_true, true_or, or_false, false_or, s1_ltx, if_true, if_false, Nat.add_zero, Nat.zero_add,  d_leF, d_leT, d_ltF, d_ltT, d_eqF, d_eqT]
      refine p_valueAt (by omega) hB hs2 hi (by omega) ?_
      exact p_put_n (hk () trivial)
/-- a join's parts -/
def Jn (I : QI) (P : List Nd) (n wa wb : Nat) (A B : List (List Int32)) : Prop := n < P.length ∧ (nd P n).2.1 < n ∧ (nd P n).2.2.1 ≠ 0 ∧ (nd P n).2.2.1 - 1 < n ∧ Hd I (nd P n).2.1 A wa ∧ Hd I ((nd P n).2.2.1 - 1) B wb ∧ (nd P (nd P n).2.1).2.2.2.2.2.2 = wa ∧ (nd P ((nd P n).2.2.1 - 1)).2.2.2.2.2.2 = wb
theorem Jn.fa {I I2 : QI} {P : List Nd} {n wa wb : Nat} {A B : List (List Int32)} (h : Jn I P n wa wb A B) (hF : FA n I I2) (hwa : wa ≤ 6) (hwb : wb ≤ 6) : Jn I2 P n wa wb A B := by
  obtain ⟨h1, h2, h3, h4, h5, h6, h7, h8⟩ := h
  exact ⟨h1, h2, h3, h4, h5.fa hF (by omega) hwa, h6.fa hF (by omega) hwb, h7, h8⟩
theorem p_copyPair {I : QI} {T : QT} {P : List Nd} (hP : Pc I P) (hw : Pw T P) {n r wa wb : Nat} {o : Option Nat} {A B R : List (List Int32)} (hJ : Jn I P n wa wb A B) (hw6 : wa + wb ≤ 6) (hr : r < A.length) (hs : ∀ s, o = some s → s < B.length) (hR : Hd I n R (wa + wb)) {post : Int32 → QI → Prop} (h : R.length < 200 → ∀ I2, FA n I I2 → Hd I2 n (R ++ [A.getD r [] ++ oth B o wb]) (wa + wb) → post (nI 1) I2) (h2 : R.length = 200 → ∀ I2, FA n I I2 → post (nI 0) I2) : wX0_copyPair (nI n) (nI r) (oI o) I post := by
  have h24 := hw.1
  obtain ⟨hn, ha, hb0, hb, hA, hB, hwa, hwb⟩ := hJ
  have hA2 := hA.2.1
  have hB2 := hB.2.1
  unfold wX0_copyPair
  refine p_firstOf hP hw hn (p_secondOf hP hw hn ?_)
  have e9 : sB (nd P n).2.2.1 = nI ((nd P n).2.2.1 - 1) := if_neg hb0
  rw [e9]
  generalize hea : (nd P n).2.1 = a at *
  generalize heb : (nd P n).2.2.1 - 1 = b at *
  refine p_widthOf hP hw (by omega) ?_
  rw [hwa]
  refine p_newRow (by omega) hR (fun hl => ?_) (fun hl => ?_)
  · have hA3 : Hd (q_u2 I 25 n (nI (R.length + 1))) a A wa := ⟨(q_u2_j _ _ _ (by omega)).trans hA.1, hA.2.1, by rw [nr_u2 (show (24 : Nat) ≠ 25 by omega)]; exact hA.2.2⟩
    have hB3 : Hd (q_u2 I 25 n (nI (R.length + 1))) b B wb := ⟨(q_u2_j _ _ _ (by omega)).trans hB.1, hB.2.1, by rw [nr_u2 (show (24 : Nat) ≠ 25 by omega)]; exact hB.2.2⟩
    refine p_copyPair_41 (by omega) (by omega) (by omega) hA3 (by omega) hr hl (fun I2 hW => ?_)
    have e0 : R.length * 6 + wa ≤ 1200 := by omega
    refine p_copyPair_75 (Pc_fr hP (fun b h1 h2 => by rw [hW.1 b (by omega), nr_u2 (by omega)])) hw (by omega) (by omega) (by omega) (hW.rd (n := n) hB3 (by omega) (by omega) (Nat.le_add_right _ _) (by rw [Nat.add_assoc]; exact Nat.add_le_add_left e0 _)) hwb (by omega) hs hl (fun I3 hW3 => ?_)
    have hrA : A.getD r [] = rowAt (I 24) a r wa := hA.2.2 r hr (by omega)
    have e7 : ∀ c, c < wb → (oth B o wb).getD c UK = (fun c => if c < wa then (A.getD r []).getD c UK else (oth B o wb).getD (c - wa) UK) (wa + c) := by
      intro c hc
      show _ = if wa + c < wa then _ else _
      rw [if_neg (by omega), show wa + c - wa = c by omega]
    have hW4 := hW.tr hW3 (g3 := fun c => if c < wa then (A.getD r []).getD c UK else (oth B o wb).getD (c - wa) UK) (fun c hc => if_pos hc) (fun c hc => (e7 c hc).symm)
    obtain ⟨x, y, z⟩ := hR.put hw6 hl hW4
    rw [sbs (A := A.getD r []) (B := oth B o wb) (row_map hrA).symm ?_ (fun c hc => if_pos hc) (fun c hc => (e7 c hc).symm)] at z
    · simp (disch := omega) only [fa_lit, nI_ltI, nI_leI, nI_eq, nI_add, pk_mul, nI_clamp, vp_in_nI, l_uk, l_n1, l_n1e, l_n1e2, l_n1l, l_n1l2, l_n1l3, not_true_eq_false, not_false_eq_true, true_implies, false_implies, true_and, and_true, and_self, forall_eq, bI_t, bI_f, Bool.false_eq_true, or_true, true_or, or_false, false_or, s1_ltx, if_true, if_false, Nat.add_zero, Nat.zero_add,  d_leF, d_leT, d_ltF, d_ltT, d_eqF, d_eqT]
      exact h hl I3 x z
    · cases o with
      | none => exact List.map_congr_left (fun c _ => uks_get.symm)
      | some s => exact (row_map (hB.2.2 s (hs s rfl) (by have := hs s rfl; omega))).symm
  · refine p_copyPair_41n (by omega) hA (by omega) hr ?_
    refine p_copyPair_75n hP hw (by omega) hB hwb (by omega) hs ?_
    exact ⟨fun _ => h2 hl I (FA.rf _ _), fun e => absurd rfl e⟩
def prN (B : List (List Int32)) (d : Nat) (X : List Int32) (x : Int32) : Nat → List (List Int32)
  | 0 => []
  | j + 1 => if (B.getD j []).getD d UK = x then prN B d X x j ++ [X ++ B.getD j []] else prN B d X x j
theorem prN_mono {B : List (List Int32)} {d : Nat} {X : List Int32} {x : Int32} (i : Nat) : ∀ k, (prN B d X x i).length ≤ (prN B d X x (i + k)).length
  | 0 => Nat.le_refl _
  | k + 1 => by
    refine Nat.le_trans (prN_mono i k) ?_
    rw [← Nat.add_assoc, prN]
    split
    · rw [List.length_append]
      omega
    · exact Nat.le_refl _
/-- the rows that a row of the first node of an INNER or LEFT join makes -/
def prR (k c d wb : Nat) (B : List (List Int32)) (X : List Int32) : List (List Int32) := if (if X.getD c UK = UK then [] else prN B d X (X.getD c UK) B.length) = [] ∧ k ≠ 0 then [X ++ uks wb] else if X.getD c UK = UK then [] else prN B d X (X.getD c UK) B.length
theorem p_pairUp_67 {I : QI} {T : QT} {P : List Nd} (hP : Pc I P) (hw : Pw T P) {n r d wa wb : Nat} {x : Int32} {A B R : List (List Int32)} (hJ : Jn I P n wa wb A B) (hw6 : wa + wb ≤ 6) (hr : r < A.length) (hd : d < wb) (hR : Hd I n R (wa + wb)) {K post : Int32 → QI → Prop} {z : Nat} (hz : z = B.length ∨ z = 0) (h : ∀ I2, FA n I I2 → Hd I2 n (R ++ prN B d (A.getD r []) x z) (wa + wb) → K (bI (decide (prN B d (A.getD r []) x z ≠ []))) I2) (h2 : 200 < R.length + (prN B d (A.getD r []) x z).length → ∀ I2, FA n I I2 → post (nI 0) I2) : ∃ f, wX0_pairUp_67 (nI n) (nI r) K post f (nI ((nd P n).2.2.1 - 1)) (nI d) x (nI z) 0 0 I := by
  have h24 := hw.1
  have hJ0 := hJ
  obtain ⟨hn, ha, hb0, hb, hA, hB, hwa, hwb⟩ := hJ
  have hA2 := hA.2.1
  have hB2 := hB.2.1
  refine lp (fun f j (s : Bool × QI) => wX0_pairUp_67 (nI n) (nI r) K post f (nI ((nd P n).2.2.1 - 1)) (nI d) x (nI z) (bI s.1) (nI j) s.2) (fun j s => FA n I s.2 ∧ Hd s.2 n (R ++ prN B d (A.getD r []) x j) (wa + wb) ∧ s.1 = decide (prN B d (A.getD r []) x j ≠ [])) z ?_ ?_ 0 (false, I) (Nat.zero_le _) ⟨FA.rf _ _, by rw [prN, List.append_nil]; exact hR, rfl⟩
  · rintro f ⟨b, I2⟩ ⟨hF, hH, hb⟩
    replace hb : b = decide (prN B d (A.getD r []) x z ≠ []) := hb
    show wX0_pairUp_67 _ _ _ _ _ _ _ _ _ _ _ _
    rw [wX0_pairUp_67]
    simp (disch := omega) only [fa_lit, nI_ltI, nI_leI, nI_eq, nI_add, pk_mul, nI_clamp, vp_in_nI, l_uk, l_n1, l_n1e, l_n1e2, l_n1l, l_n1l2, l_n1l3, not_true_eq_false, not_false_eq_true, true_implies, false_implies, true_and, and_true, and_self, forall_eq, bI_t, bI_f, Bool.false_eq_true, or_true, true_or, or_false, false_or, s1_ltx, if_true, if_false, Nat.add_zero, Nat.zero_add,  d_leF, d_leT, d_ltF, d_ltT, d_eqF, d_eqT]
    rw [hb]
    exact h I2 hF hH
  · rintro f j ⟨b, I2⟩ hj ⟨hF, hH, hb⟩ hk
    replace hb : b = decide (prN B d (A.getD r []) x j ≠ []) := hb
    replace hF : FA n I I2 := hF
    show wX0_pairUp_67 _ _ _ _ _ _ _ _ _ _ _ _
    rw [wX0_pairUp_67]
    simp (disch := omega) only [fa_lit, nI_ltI, nI_leI, nI_eq, nI_add, pk_mul, nI_clamp, vp_in_nI, l_uk, l_n1, l_n1e, l_n1e2, l_n1l, l_n1l2, l_n1l3, not_true_eq_false, not_false_eq_true, true_implies, false_implies, true_and, and_true, and_self, forall_eq, bI_t, bI_f, Bool.false_eq_true, or_true, true_or, or_false, false_or, s1_ltx, if_true, if_false, Nat.add_zero, Nat.zero_add,  d_leF, d_leT, d_ltF, d_ltT, d_eqF, d_eqT]
    have hj2 : j < B.length := by omega
    refine p_valueAt (by omega) (hB.fa hF (by omega) (by omega)) hj2 hd (by omega) ?_
    refine ⟨fun e => ?_, fun e => ?_⟩
    · refine hk (b, I2) ⟨hF, ?_, ?_⟩
      · rw [prN, if_neg e]
        exact hH
      · rw [prN, if_neg e]
        exact hb
    · refine p_copyPair (o := some j) (hF.pc hP) hw (hJ0.fa hF (by omega) (by omega)) hw6 hr (fun s hs => by cases hs; exact hj2) hH (fun _ I3 hF3 hH3 => ?_) (fun hl I3 hF3 => ?_)
      · simp (disch := omega) only [fa_lit, nI_ltI, nI_leI, nI_eq, nI_add, pk_mul, nI_clamp, vp_in_nI, l_uk, l_n1, l_n1e, l_n1e2, l_n1l, l_n1l2, l_n1l3, not_true_eq_false, not_false_eq_true, true_implies, false_implies, true_and, and_true, and_self, forall_eq, bI_t, bI_f, Bool.false_eq_true, or_true, true_or, or_false, false_or, s1_ltx, if_true, if_false, Nat.add_zero, Nat.zero_add,  d_leF, d_leT, d_ltF, d_ltT, d_eqF, d_eqT]
        refine hk (true, I3) ⟨hF.tr hF3, ?_, ?_⟩
        · rw [prN, if_pos e, ← List.append_assoc]
          exact hH3
        · rw [prN, if_pos e]
          simp
      · simp (disch := omega) only [fa_lit, nI_ltI, nI_leI, nI_eq, nI_add, pk_mul, nI_clamp, vp_in_nI, l_uk, l_n1, l_n1e, l_n1e2, l_n1l, l_n1l2, l_n1l3, not_true_eq_false, not_false_eq_true, true_implies, false_implies, true_and, and_true, and_self, forall_eq, bI_t, bI_f, Bool.false_eq_true, or_true, true_or, or_false, false_or, s1_ltx, if_true, if_false, Nat.add_zero, Nat.zero_add,  d_leF, d_leT, d_ltF, d_ltT, d_eqF, d_eqT]
        refine h2 ?_ I3 (hF.tr hF3)
        have e9 := prN_mono (B := B) (d := d) (X := A.getD r []) (x := x) (j + 1) (z - (j + 1))
        rw [show j + 1 + (z - (j + 1)) = z by omega, prN, if_pos e, List.length_append] at e9
        rw [List.length_append] at hl
        have e8 : (prN B d (A.getD r []) x j).length + 1 ≤ (prN B d (A.getD r []) x z).length := e9
        omega
