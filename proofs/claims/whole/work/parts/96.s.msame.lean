/-! pure: the reference compares -/
theorem m_same_63 {I : QI} {J : QJ} {n : Nat} {y v : Int32} (hn : n < 24) {K : Int32 → QI → QJ → Prop} {post : Int32 → QI → QJ → Prop} (h : ∀ I2 : QI, (∀ b, b ≠ 69 → I2 b = I b) → (∀ k, k < 1200 → I2 69 k = I 66 (1200 * n + k)) → K v I2 J) : ∃ f, wX8_same_63 (nI n) y K post f v 0 I J := by
  refine lp (fun f i (I2 : QI) => wX8_same_63 (nI n) y K post f v (nI i) I2 J) (fun i I2 => (∀ b, b ≠ 69 → I2 b = I b) ∧ ∀ k, k < i → I2 69 k = I 66 (1200 * n + k)) 1200 ?_ ?_ 0 I (Nat.zero_le _) ⟨fun _ _ => rfl, fun c hc => absurd hc (Nat.not_lt_zero c)⟩
  · rintro f I2 ⟨hF, hk⟩
    show wX8_same_63 _ _ _ _ _ _ _ _ _
    rw [wX8_same_63]
    simp (disch := omega) only [fa_lit, nI_ltI, nI_leI, nI_eq, nI_add, pk_mul, nI_clamp, vp_in_nI, l_uk, l_n1, l_n1e, l_n1e2, l_n1l, l_n1l2, l_n1l3, not_true_eq_false, not_false_eq_true, true_implies, false_implies, true_and, and_true, and_self, forall_eq, bI_t, bI_f, Bool.false_eq_true, or_true, true_or, or_false, false_or, s1_ltx, if_true, if_false, Nat.add_zero, Nat.zero_add,  d_leF, d_leT, d_ltF, d_ltT, d_eqF, d_eqT]
    exact h I2 hF hk
  · rintro f i I2 hi ⟨hF, hk⟩ hkk
    show wX8_same_63 _ _ _ _ _ _ _ _ _
    rw [wX8_same_63]
    simp (disch := omega) only [fa_lit, nI_ltI, nI_leI, nI_eq, nI_add, pk_mul, nI_clamp, vp_in_nI, l_uk, l_n1, l_n1e, l_n1e2, l_n1l, l_n1l2, l_n1l3, not_true_eq_false, not_false_eq_true, true_implies, false_implies, true_and, and_true, and_self, forall_eq, bI_t, bI_f, Bool.false_eq_true, or_true, true_or, or_false, false_or, s1_ltx, if_true, if_false, Nat.add_zero, Nat.zero_add,  d_leF, d_leT, d_ltF, d_ltT, d_eqF, d_eqT]
    refine hkk _ ⟨fr_u2 hF, fun k hk2 => ?_⟩
    by_cases e : k = i
    · subst e
      rw [q_u2_s, hF 66 (by omega)]
    · rw [q_u2_j _ _ _ e]
      exact hk k (by omega)
theorem m_isKept {I : QI} {P : List Nd} (hP : Pm I P) {m s r w : Nat} {A B : List (List Int32)} (hm : m < P.length) (h24 : P.length ≤ 24) (hwm : (nd P m).2.2.2.2.2.2 = w) (hw6 : w ≤ 6) (hB : Hm I m B w) (hs : s < B.length) (hs2 : s < 200) (hr2 : r < 200) (hk : ∀ c, c < w → I 69 (6 * r + c) = (A.getD r []).getD c UK) (hA : (List.range w).map (fun c => (A.getD r []).getD c UK) = A.getD r []) {post : Int32 → Prop} (h : post (bI (decide (B.getD s [] = A.getD r [])))) : wX8_isKept (nI r) (nI m) (nI s) I post := by
  have e61 : I 61 m = nI w := by rw [(hP.2 m hm).2.2.2.2.2.2, hwm]
  unfold wX8_isKept
  refine lp (fun f i (b : Bool) => wX8_isKept_6 (nI r) (nI m) (nI s) I post f (bI b) (nI i)) (fun i b => b = decide (∀ c, c < i → (B.getD s []).getD c UK = (A.getD r []).getD c UK)) w ?_ ?_ 0 true (Nat.zero_le _) (decide_eq_true (fun c hc => absurd hc (Nat.not_lt_zero c))).symm
  · intro f b hI
    have e2 : decide (B.getD s [] = A.getD r []) = b := by
      rw [hI]
      refine decide_eq_decide.mpr ⟨fun z c hc => by rw [z], fun z => ?_⟩
      rw [← hA, ← row_map (hB.2 s hs hs2)]
      exact List.map_congr_left (fun c hc => z c (List.mem_range.mp hc))
    rw [e2] at h
    show wX8_isKept_6 _ _ _ _ _ _ _ _
    rw [wX8_isKept_6]
    simp (disch := omega) only [e61, fa_lit, nI_ltI, nI_leI, nI_eq, nI_add, pk_mul, nI_clamp, vp_in_nI, l_uk, l_n1, l_n1e, l_n1e2, l_n1l, l_n1l2, l_n1l3, not_true_eq_false, not_false_eq_true, true_implies, false_implies, true_and, and_true, and_self, forall_eq, bI_t, bI_f, Bool.false_eq_true, or_true, true_or, or_false, false_or, s1_ltx, if_true, if_false, Nat.add_zero, Nat.zero_add,  d_leF, d_leT, d_ltF, d_ltT, d_eqF, d_eqT]
    exact ⟨bI_01 b, h⟩
  · intro f i b hi hI hkk
    show wX8_isKept_6 _ _ _ _ _ _ _ _
    rw [wX8_isKept_6]
    cases b
    · simp (disch := omega) only [e61, fa_lit, nI_ltI, nI_leI, nI_eq, nI_add, pk_mul, nI_clamp, vp_in_nI, l_uk, l_n1, l_n1e, l_n1e2, l_n1l, l_n1l2, l_n1l3, not_true_eq_false, not_false_eq_true, true_implies, false_implies, true_and, and_true, and_self, forall_eq, bI_t, bI_f, Bool.false_eq_true, or_true, true_or, or_false, false_or, s1_ltx, if_true, if_false, Nat.add_zero, Nat.zero_add,  d_leF, d_leT, d_ltF, d_ltT, d_eqF, d_eqT]
      refine hkk false ?_
      exact (decide_eq_false (fun z => of_decide_eq_false hI.symm (fun c hc => z c (by omega)))).symm
    · simp (disch := omega) only [e61, fa_lit, nI_ltI, nI_leI, nI_eq, nI_add, pk_mul, nI_clamp, vp_in_nI, l_uk, l_n1, l_n1e, l_n1e2, l_n1l, l_n1l2, l_n1l3, not_true_eq_false, not_false_eq_true, true_implies, false_implies, true_and, and_true, and_self, forall_eq, bI_t, bI_f, Bool.false_eq_true, or_true, true_or, or_false, false_or, s1_ltx, if_true, if_false, Nat.add_zero, Nat.zero_add,  d_leF, d_leT, d_ltF, d_ltT, d_eqF, d_eqT]
      refine m_cellOf (by omega) hB hs hs2 hi hw6 ?_
      rw [hk i hi]
      refine ⟨fun e => ?_, fun e => ?_⟩
      · refine hkk false ?_
        exact (decide_eq_false (fun z => e (z i (by omega)).symm)).symm
      · refine hkk true ?_
        refine (decide_eq_true (fun c hc => ?_)).symm
        by_cases e2 : c = i
        · subst e2; exact e.symm
        · exact of_decide_eq_true hI.symm c (by omega)
theorem m_same_166 {I : QI} {J : QJ} {P : List Nd} (hP : Pm I P) {m r w : Nat} {A B : List (List Int32)} (hm : m < P.length) (h24 : P.length ≤ 24) (hwm : (nd P m).2.2.2.2.2.2 = w) (hw6 : w ≤ 6) (hB : Hm I m B w) (lB : B.length ≤ 200) (hr : r < B.length) (hk : ∀ c, c < w → I 69 (6 * r + c) = (A.getD r []).getD c UK) (hA : (List.range w).map (fun c => (A.getD r []).getD c UK) = A.getD r []) {G : Nat → Bool} (hG : ∀ k, k < 400 → I 68 k = bI (G k)) {x : Int32} {K : Int32 → Int32 → Int32 → QI → QJ → Prop} {post : Int32 → QI → QJ → Prop} (h1 : ∀ i, i < B.length → tkA B (A.getD r []) G = some i → K (nI B.length) (nI r) (nI i) I J) (h2 : tkA B (A.getD r []) G = none → K (nI B.length) (nI r) (nI B.length) I J) : ∃ f, wX8_same_166 x (nI m) K post f (nI B.length) (nI r) 0 I J := by
  refine lp (fun f i (_ : Unit) => wX8_same_166 x (nI m) K post f (nI B.length) (nI r) (nI i) I J) (fun i _ => ∀ s, s < i → (!G s && decide (B.getD s [] = A.getD r [])) = false) B.length ?_ ?_ 0 () (Nat.zero_le _) (fun c hc => absurd hc (Nat.not_lt_zero c))
  · intro f _ hI
    have e := h2 (srch_n hI)
    show wX8_same_166 _ _ _ _ _ _ _ _ _ _
    rw [wX8_same_166]
    simp (disch := omega) only [fa_lit, nI_ltI, nI_leI, nI_eq, nI_add, pk_mul, nI_clamp, vp_in_nI, l_uk, l_n1, l_n1e, l_n1e2, l_n1l, l_n1l2, l_n1l3, not_true_eq_false, not_false_eq_true, true_implies, false_implies, true_and, and_true, and_self, forall_eq, bI_t, bI_f, Bool.false_eq_true, or_true, true_or, or_false, false_or, s1_ltx, if_true, if_false, Nat.add_zero, Nat.zero_add,  d_leF, d_leT, d_ltF, d_ltT, d_eqF, d_eqT]
    exact e
  · intro f i _ hi hI hkk
    have hno : (!G i && decide (B.getD i [] = A.getD r [])) = false → wX8_same_166 x (nI m) K post f (nI B.length) (nI r) (nI (i + 1)) I J := fun e => hkk () (fun s hs => by
      by_cases e2 : s = i
      · subst e2; exact e
      · exact hI s (by omega))
    have g := hG i (by omega)
    show wX8_same_166 _ _ _ _ _ _ _ _ _ _
    rw [wX8_same_166]
    cases e : G i
    · rw [e] at g hno
      simp (disch := omega) only [g, fa_lit, nI_ltI, nI_leI, nI_eq, nI_add, pk_mul, nI_clamp, vp_in_nI, l_uk, l_n1, l_n1e, l_n1e2, l_n1l, l_n1l2, l_n1l3, not_true_eq_false, not_false_eq_true, true_implies, false_implies, true_and, and_true, and_self, forall_eq, bI_t, bI_f, Bool.false_eq_true, or_true, true_or, or_false, false_or, s1_ltx, if_true, if_false, Nat.add_zero, Nat.zero_add,  d_leF, d_leT, d_ltF, d_ltT, d_eqF, d_eqT]
      refine m_isKept hP hm h24 hwm hw6 hB hi (by omega) (by omega) hk hA ?_
      cases e2 : decide (B.getD i [] = A.getD r [])
      · rw [e2] at hno
        simp (disch := omega) only [fa_lit, nI_ltI, nI_leI, nI_eq, nI_add, pk_mul, nI_clamp, vp_in_nI, l_uk, l_n1, l_n1e, l_n1e2, l_n1l, l_n1l2, l_n1l3, not_true_eq_false, not_false_eq_true, true_implies, false_implies, true_and, and_true, and_self, forall_eq, bI_t, bI_f, Bool.false_eq_true, or_true, true_or, or_false, false_or, s1_ltx, if_true, if_false, Nat.add_zero, Nat.zero_add,  d_leF, d_leT, d_ltF, d_ltT, d_eqF, d_eqT]
        exact hno rfl
      · have e3 := h1 i hi (srch_i (by rw [e, e2]; rfl) hI hi)
        simp (disch := omega) only [fa_lit, nI_ltI, nI_leI, nI_eq, nI_add, pk_mul, nI_clamp, vp_in_nI, l_uk, l_n1, l_n1e, l_n1e2, l_n1l, l_n1l2, l_n1l3, not_true_eq_false, not_false_eq_true, true_implies, false_implies, true_and, and_true, and_self, forall_eq, bI_t, bI_f, Bool.false_eq_true, or_true, true_or, or_false, false_or, s1_ltx, if_true, if_false, Nat.add_zero, Nat.zero_add,  d_leF, d_leT, d_ltF, d_ltT, d_eqF, d_eqT]
        exact e3
    · rw [e] at g hno
      simp (disch := omega) only [g, fa_lit, nI_ltI, nI_leI, nI_eq, nI_add, pk_mul, nI_clamp, vp_in_nI, l_uk, l_n1, l_n1e, l_n1e2, l_n1l, l_n1l2, l_n1l3, not_true_eq_false, not_false_eq_true, true_implies, false_implies, true_and, and_true, and_self, forall_eq, bI_t, bI_f, Bool.false_eq_true, or_true, true_or, or_false, false_or, s1_ltx, if_true, if_false, Nat.add_zero, Nat.zero_add,  d_leF, d_leT, d_ltF, d_ltT, d_eqF, d_eqT]
      exact hno rfl
theorem m_same_156 {I : QI} {J : QJ} {P : List Nd} (hP : Pm I P) {m w : Nat} {A B : List (List Int32)} (hm : m < P.length) (h24 : P.length ≤ 24) (hwm : (nd P m).2.2.2.2.2.2 = w) (hw6 : w ≤ 6) (hB : Hm I m B w) (lB : B.length ≤ 200) (hl : A.length = B.length) (hk : ∀ r c, r < A.length → c < w → I 69 (6 * r + c) = (A.getD r []).getD c UK) (hA : ∀ r, r < A.length → (List.range w).map (fun c => (A.getD r []).getD c UK) = A.getD r []) (hG : ∀ k, k < 400 → I 68 k = bI false) {x : Int32} {post : Int32 → QI → QJ → Prop} (h : ∀ I2 : QI, (∀ b, b ≠ 68 → I2 b = I b) → post (bI (er B A).isSome) I2 J) : ∃ f, wX8_same_156 x (nI m) post f (nI B.length) 0 I J := by
  refine lp (fun f j (I3 : QI) => wX8_same_156 x (nI m) post f (nI B.length) (nI j) I3 J) (fun j I3 => (∀ b, b ≠ 68 → I3 b = I b) ∧ ∃ G : Nat → Bool, (∀ k, k < 400 → I3 68 k = bI (G k)) ∧ er B A = er (um B G B.length) (A.drop j)) B.length ?_ ?_ 0 I (Nat.zero_le _) ⟨fun _ _ => rfl, fun _ => false, hG, by rw [um_all _ (Nat.le_refl _), List.take_length, List.drop_zero]⟩
  · rintro f I3 ⟨hF3, G, hG3, he⟩
    rw [← hl, List.drop_length, er] at he
    have h := h I3 hF3
    rw [he] at h
    show wX8_same_156 _ _ _ _ _ _ _ _
    rw [wX8_same_156]
    simp (disch := omega) only [fa_lit, nI_ltI, nI_leI, nI_eq, nI_add, pk_mul, nI_clamp, vp_in_nI, l_uk, l_n1, l_n1e, l_n1e2, l_n1l, l_n1l2, l_n1l3, not_true_eq_false, not_false_eq_true, true_implies, false_implies, true_and, and_true, and_self, forall_eq, bI_t, bI_f, Bool.false_eq_true, or_true, true_or, or_false, false_or, s1_ltx, if_true, if_false, Nat.add_zero, Nat.zero_add,  d_leF, d_leT, d_ltF, d_ltT, d_eqF, d_eqT]
    exact h
  · rintro f j I3 hj ⟨hF3, G, hG3, he⟩ hkk
    have hP3 : Pm I3 P := (FM.one (n := m) hF3).pm hP
    have hd : A.drop j = A.getD j [] :: A.drop (j + 1) := by
      rw [List.drop_eq_getElem_cons (by omega), List.getD_eq_getElem?_getD, List.getElem?_eq_getElem (by omega)]
      rfl
    rw [hd, er] at he
    have hu := um_srch (A := B) (x := A.getD j []) (G := G) B.length
    show wX8_same_156 _ _ _ _ _ _ _ _
    rw [wX8_same_156]
    simp (disch := omega) only [fa_lit, nI_ltI, nI_leI, nI_eq, nI_add, pk_mul, nI_clamp, vp_in_nI, l_uk, l_n1, l_n1e, l_n1e2, l_n1l, l_n1l2, l_n1l3, not_true_eq_false, not_false_eq_true, true_implies, false_implies, true_and, and_true, and_self, forall_eq, bI_t, bI_f, Bool.false_eq_true, or_true, true_or, or_false, false_or, s1_ltx, if_true, if_false, Nat.add_zero, Nat.zero_add,  d_leF, d_leT, d_ltF, d_ltT, d_eqF, d_eqT]
    refine m_same_166 hP3 hm h24 hwm hw6 (hB.one hF3) lB hj (fun c hc => by rw [hF3 69 (by omega)]; exact hk j c (by omega) hc) (hA j (by omega)) hG3 (fun i hi e3 => ?_) (fun e3 => ?_)
    · obtain ⟨u1, u2⟩ := hu.2 i e3
      rw [if_pos u1, ← u2] at he
      simp (disch := omega) only [fa_lit, nI_ltI, nI_leI, nI_eq, nI_add, pk_mul, nI_clamp, vp_in_nI, l_uk, l_n1, l_n1e, l_n1e2, l_n1l, l_n1l2, l_n1l3, not_true_eq_false, not_false_eq_true, true_implies, false_implies, true_and, and_true, and_self, forall_eq, bI_t, bI_f, Bool.false_eq_true, or_true, true_or, or_false, false_or, s1_ltx, if_true, if_false, Nat.add_zero, Nat.zero_add,  d_leF, d_leT, d_ltF, d_ltT, d_eqF, d_eqT]
      exact hkk _ ⟨fr_u2 hF3, _, ar_u2 (x := true) hG3, he⟩
    · rw [if_neg (hu.1 e3)] at he
      have h := h I3 hF3
      rw [he] at h
      simp (disch := omega) only [fa_lit, nI_ltI, nI_leI, nI_eq, nI_add, pk_mul, nI_clamp, vp_in_nI, l_uk, l_n1, l_n1e, l_n1e2, l_n1l, l_n1l2, l_n1l3, not_true_eq_false, not_false_eq_true, true_implies, false_implies, true_and, and_true, and_self, forall_eq, bI_t, bI_f, Bool.false_eq_true, or_true, true_or, or_false, false_or, s1_ltx, if_true, if_false, Nat.add_zero, Nat.zero_add,  d_leF, d_leT, d_ltF, d_ltT, d_eqF, d_eqT]
      exact h
/-- what two nodes' rows compare to -/
def sameR (T : QT) (P : List Nd) (n m : Nat) : Bool := match EV T P n, EV T P m with
  | some A, some B => decide ((nd P n).2.2.2.2.2.2 = (nd P m).2.2.2.2.2.2 ∧ A.length = B.length) && (er A B).isSome
  | none, _ => false
  | some _, none => false
theorem m_same {I : QI} {J : QJ} {T : QT} {P : List Nd} (hT : Tm I T) (hwT : Tw T) (hP : Pm I P) (hw : Pw T P) {n m bu : Nat} (hn : n < P.length) (hm : m < P.length) (hbu : I 51 13 = nI bu) (hbu2 : bu ≤ 100000) {post : Int32 → QI → QJ → Prop} (h : ∀ (x : Int32) (I2 : QI) (J2 : QJ), (∀ b, b ≠ 51 → b ≠ 64 → b ≠ 66 → b ≠ 67 → b ≠ 68 → b ≠ 69 → I2 b = I b) → (∀ j, j ≠ 0 → I2 51 j = I 51 j) → I2 51 0 = (if psb T P n bu && psb T P m bu then nI 0 else nI 2) → (psb T P n bu = true → psb T P m bu = true → x = bI (sameR T P n m)) → post x I2 J2) : wX8_same (nI n) (nI m) I J post := by
  have h24 := hw.1
  have wn6 := (hw.2 n hn).1.2.2.2.2.2.2
  have wm6 := (hw.2 m hm).1.2.2.2.2.2.2
  unfold wX8_same wX8_goesWell
  refine m_isNode hP hw hn ?_
  simp (disch := omega) only [fa_lit, nI_ltI, nI_leI, nI_eq, nI_add, pk_mul, nI_clamp, vp_in_nI, l_uk, l_n1, l_n1e, l_n1e2, l_n1l, l_n1l2, l_n1l3, not_true_eq_false, not_false_eq_true, true_implies, false_implies, true_and, and_true, and_self, forall_eq, bI_t, bI_f, Bool.false_eq_true, or_true, true_or, or_false, false_or, s1_ltx, if_true, if_false, Nat.add_zero, Nat.zero_add,  d_leF, d_leT, d_ltF, d_ltT, d_eqF, d_eqT]
  refine m_isNode hP hw hm ?_
  simp (disch := omega) only [fa_lit, nI_ltI, nI_leI, nI_eq, nI_add, pk_mul, nI_clamp, vp_in_nI, l_uk, l_n1, l_n1e, l_n1e2, l_n1l, l_n1l2, l_n1l3, not_true_eq_false, not_false_eq_true, true_implies, false_implies, true_and, and_true, and_self, forall_eq, bI_t, bI_f, Bool.false_eq_true, or_true, true_or, or_false, false_or, s1_ltx, if_true, if_false, Nat.add_zero, Nat.zero_add,  d_leF, d_leT, d_ltF, d_ltT, d_eqF, d_eqT]
  refine m_work hT hwT hP hw hn hbu hbu2 (fun I2 J2 hF2 hO2 => ?_)
  cases e : psb T P n bu
  · simp (disch := omega) only [q_u2_s, ne_u2, nr_u2, fa_lit, nI_ltI, nI_leI, nI_eq, nI_add, pk_mul, nI_clamp, vp_in_nI, l_uk, l_n1, l_n1e, l_n1e2, l_n1l, l_n1l2, l_n1l3, not_true_eq_false, not_false_eq_true, true_implies, false_implies, true_and, and_true, and_self, forall_eq, bI_t, bI_f, Bool.false_eq_true, or_true, true_or, or_false, false_or, s1_ltx, if_true, if_false, Nat.add_zero, Nat.zero_add,  d_leF, d_leT, d_ltF, d_ltT, d_eqF, d_eqT]
    refine h _ _ _ (fun b h1 h2 h3 h4 h5 h6 => by rw [nr_u2 h1]; exact hF2 b h2 h3 h4 h5) (fun j hj => by rw [q_u2_j _ _ _ hj, hF2 51 (by omega) (by omega) (by omega) (by omega)]) ?_ (fun z => by rw [e] at z; cases z)
    rw [e, q_u2_s]
    rfl
  · obtain ⟨A, hEA, hA, -⟩ := hO2 e
    obtain ⟨_, _, _, _, _, lA⟩ := EV_some hw hn hEA
    have a64 := hA.1
    simp (disch := omega) only [a64, q_u2_s, ne_u2, nr_u2, fa_lit, nI_ltI, nI_leI, nI_eq, nI_add, pk_mul, nI_clamp, vp_in_nI, l_uk, l_n1, l_n1e, l_n1e2, l_n1l, l_n1l2, l_n1l3, not_true_eq_false, not_false_eq_true, true_implies, false_implies, true_and, and_true, and_self, forall_eq, bI_t, bI_f, Bool.false_eq_true, or_true, true_or, or_false, false_or, s1_ltx, if_true, if_false, Nat.add_zero, Nat.zero_add,  d_leF, d_leT, d_ltF, d_ltT, d_eqF, d_eqT]
    refine m_same_63 (by omega) (fun I3 hF3 hk3 => ?_)
    have hF4 : ∀ b, b ≠ 51 → b ≠ 64 → b ≠ 66 → b ≠ 67 → b ≠ 68 → b ≠ 69 → I3 b = I b := fun b h1 h2 h3 h4 h5 h6 => by rw [hF3 b h6, nr_u2 h1]; exact hF2 b h2 h3 h4 h5
    have h51 : ∀ j, j ≠ 0 → I3 51 j = I 51 j := fun j hj => by rw [hF3 51 (by omega), q_u2_j _ _ _ hj, hF2 51 (by omega) (by omega) (by omega) (by omega)]
    have hP4 : Pm I3 P := by
      refine ⟨by rw [h51 5 (by omega)]; exact hP.1, fun n hn => ?_⟩
      rw [hF4 55 (by omega) (by omega) (by omega) (by omega) (by omega) (by omega), hF4 56 (by omega) (by omega) (by omega) (by omega) (by omega) (by omega), hF4 57 (by omega) (by omega) (by omega) (by omega) (by omega) (by omega), hF4 58 (by omega) (by omega) (by omega) (by omega) (by omega) (by omega), hF4 59 (by omega) (by omega) (by omega) (by omega) (by omega) (by omega), hF4 60 (by omega) (by omega) (by omega) (by omega) (by omega) (by omega), hF4 61 (by omega) (by omega) (by omega) (by omega) (by omega) (by omega)]
      exact hP.2 n hn
    have hT4 : Tm I3 T := by
      refine ⟨by rw [h51 1 (by omega)]; exact hT.1, fun u hu => ?_⟩
      rw [hF4 52 (by omega) (by omega) (by omega) (by omega) (by omega) (by omega), hF4 53 (by omega) (by omega) (by omega) (by omega) (by omega) (by omega), hF4 54 (by omega) (by omega) (by omega) (by omega) (by omega) (by omega)]
      exact hT.2 u hu
    have hk4 : ∀ r c, r < A.length → c < (nd P n).2.2.2.2.2.2 → I3 69 (6 * r + c) = (A.getD r []).getD c UK := fun r c hr hc => by
      rw [hk3 _ (by omega), nr_u2 (by omega), hA.2 r hr (by omega), rowAt_get hc]
      congr 1
      omega
    have hA4 : ∀ r, r < A.length → (List.range (nd P n).2.2.2.2.2.2).map (fun c => (A.getD r []).getD c UK) = A.getD r [] := fun r hr => row_map (hA.2 r hr (by omega))
    refine m_work hT4 hwT hP4 hw hm (by rw [h51 13 (by omega)]; exact hbu) hbu2 (fun I5 J5 hF5 hO5 => ?_)
    have hF6 : ∀ (x : Int32) b, b ≠ 51 → b ≠ 64 → b ≠ 66 → b ≠ 67 → b ≠ 68 → b ≠ 69 → q_u2 I5 51 0 x b = I b := fun x b h1 h2 h3 h4 h5 h6 => by rw [nr_u2 h1, hF5 b h2 h3 h4 h5]; exact hF4 b h1 h2 h3 h4 h5 h6
    have h516 : ∀ (x : Int32) j, j ≠ 0 → q_u2 I5 51 0 x 51 j = I 51 j := fun x j hj => by rw [q_u2_j _ _ _ hj, hF5 51 (by omega) (by omega) (by omega) (by omega)]; exact h51 j hj
    cases e2 : psb T P m bu
    · simp (disch := omega) only [q_u2_s, ne_u2, nr_u2, fa_lit, nI_ltI, nI_leI, nI_eq, nI_add, pk_mul, nI_clamp, vp_in_nI, l_uk, l_n1, l_n1e, l_n1e2, l_n1l, l_n1l2, l_n1l3, not_true_eq_false, not_false_eq_true, true_implies, false_implies, true_and, and_true, and_self, forall_eq, bI_t, bI_f, Bool.false_eq_true, or_true, true_or, or_false, false_or, s1_ltx, if_true, if_false, Nat.add_zero, Nat.zero_add,  d_leF, d_leT, d_ltF, d_ltT, d_eqF, d_eqT]
      refine h _ _ _ (hF6 _) (h516 _) ?_ (fun _ z => by rw [e2] at z; cases z)
      rw [e, e2, q_u2_s]
      rfl
    · obtain ⟨B, hEB, hB, -⟩ := hO5 e2
      obtain ⟨_, _, _, _, _, lB⟩ := EV_some hw hm hEB
      have b64 := hB.1
      have hP5 : Pm I5 P := Pm_fr hP4 (fun b h1 h2 => hF5 b (by omega) (by omega) (by omega) (by omega))
      have cn := (hP5.2 n hn).2.2.2.2.2.2
      have cm := (hP5.2 m hm).2.2.2.2.2.2
      have hR : sameR T P n m = (decide ((nd P n).2.2.2.2.2.2 = (nd P m).2.2.2.2.2.2 ∧ A.length = B.length) && (er A B).isSome) := by
        unfold sameR
        rw [hEA, hEB]
      have hh := h
      rw [hR, e, e2] at hh
      simp (disch := omega) only [b64, cn, cm, q_u2_s, ne_u2, nr_u2, fa_lit, nI_ltI, nI_leI, nI_eq, nI_add, pk_mul, nI_clamp, vp_in_nI, l_uk, l_n1, l_n1e, l_n1e2, l_n1l, l_n1l2, l_n1l3, not_true_eq_false, not_false_eq_true, true_implies, false_implies, true_and, and_true, and_self, forall_eq, bI_t, bI_f, Bool.false_eq_true, or_true, true_or, or_false, false_or, s1_ltx, if_true, if_false, Nat.add_zero, Nat.zero_add,  d_leF, d_leT, d_ltF, d_ltT, d_eqF, d_eqT]
      refine ⟨fun ew => ?_, fun ew => ⟨fun el => ?_, fun el => ?_⟩⟩
      · refine hh _ _ _ (hF6 _) (h516 _) (q_u2_s _ _ _ _) (fun _ _ => ?_)
        rw [decide_eq_false (fun z => ew z.1)]
        rfl
      · refine m_fill (fun I7 hF7 hG7 => ?_)
        rw [ew] at hk4 hA4
        rw [el]
        refine m_same_156 (A := A) (P := P) ((FM.one (n := m) hF7).pm ?_) hm h24 rfl wm6 ((Hm.one ?_ hF7)) lB el (fun r c hr hc => ?_) hA4 hG7 (fun I8 hF8 => ?_)
        · exact ⟨by rw [q_u2_j _ _ _ (by omega)]; exact hP5.1, fun n hn => by simp (disch := omega) only [nr_u2]; exact hP5.2 n hn⟩
        · exact ⟨by rw [nr_u2 (by omega)]; exact hB.1, by rw [nr_u2 (show (66 : Nat) ≠ 51 by omega)]; exact hB.2⟩
        · rw [hF7 69 (by omega), nr_u2 (by omega), hF5 69 (by omega) (by omega) (by omega) (by omega)]
          exact hk4 r c hr hc
        · refine hh _ _ _ (fun b h1 h2 h3 h4 h5 h6 => by rw [hF8 b h5, hF7 b h5]; exact hF6 _ b h1 h2 h3 h4 h5 h6) (fun j hj => by rw [hF8 51 (by omega), hF7 51 (by omega)]; exact h516 _ j hj) (by rw [hF8 51 (by omega), hF7 51 (by omega)]; exact q_u2_s _ _ _ _) (fun _ _ => ?_)
          rw [decide_eq_true ⟨ew, el⟩, Bool.true_and, er_sym el]
      · refine hh _ _ _ (hF6 _) (h516 _) (q_u2_s _ _ _ _) (fun _ _ => ?_)
        rw [decide_eq_false (fun z => el z.2)]
        rfl
