/-! pure: the reference gives bags -/
theorem m_fill {q z : Nat} {I : QI} {post : QI → Prop} (h : ∀ I2 : QI, (∀ b, b ≠ q → I2 b = I b) → (∀ k, k < z → I2 q k = bI false) → post I2) : wJ7_fill q z 0 I post := by
  refine ⟨Or.inl rfl, h _ (fun b hb => ?_) (fun k hk => ?_)⟩
  · funext j
    exact if_neg (fun e => hb e.1)
  · exact if_pos ⟨rfl, hk⟩
theorem FM.one {n : Nat} {I I2 : QI} (h : ∀ b, b ≠ 68 → I2 b = I b) : FM n I I2 := ⟨fun b _ _ h3 => h b h3, fun i _ => by rw [h 66 (by omega)], fun m _ => by rw [h 64 (by omega)]⟩
theorem Hm.one {n w : Nat} {I I2 : QI} {R : List (List Int32)} (hR : Hm I n R w) (h : ∀ b, b ≠ 68 → I2 b = I b) : Hm I2 n R w := ⟨by rw [h 64 (by omega)]; exact hR.1, by rw [h 66 (by omega)]; exact hR.2⟩
theorem tkm_hi {A B : List (List Int32)} : ∀ {j k : Nat}, A.length ≤ k → tkm A B j k = false
  | 0, _, _ => rfl
  | j + 1, k, h => by
    rw [tkm]
    cases e : tkA A (B.getD j []) (tkm A B j) with
    | none => exact tkm_hi h
    | some i =>
      have := (srch_si e).1
      show (if k = i then true else tkm A B j k) = false
      rw [if_neg (by omega)]
      exact tkm_hi h
theorem m_takeAway_23 {I : QI} {T : QT} {P : List Nd} (hP : Pm I P) (hw : Pw T P) {a b s w : Nat} {A B : List (List Int32)} (ha : a < P.length) (hb : b < 24) (hA : Hm I a A w) (hB : Hm I b B w) (hwa : (nd P a).2.2.2.2.2.2 = w) (hw6 : w ≤ 6) (lA : A.length ≤ 200) (lB : B.length ≤ 200) (hs : s < B.length) {G : Nat → Bool} (hG : ∀ k, k < 400 → I 68 k = bI (G k)) {K : Int32 → Int32 → QI → Prop} {post : QI → Prop} (h1 : ∀ i, i < A.length → tkA A (B.getD s []) G = some i → K (nI s) (nI i) I) (h2 : tkA A (B.getD s []) G = none → K (nI s) (nI A.length) I) : ∃ f, wX8_takeAway_23 (nI a) (nI b) K post f (nI s) 0 I := by
  have h24 := hw.1
  refine lp (fun f i (_ : Unit) => wX8_takeAway_23 (nI a) (nI b) K post f (nI s) (nI i) I) (fun i _ => ∀ r, r < i → (!G r && decide (A.getD r [] = B.getD s [])) = false) A.length ?_ ?_ 0 () (Nat.zero_le _) (fun c hc => absurd hc (Nat.not_lt_zero c))
  · intro f _ hI
    have e := h2 (srch_n hI)
    show wX8_takeAway_23 _ _ _ _ _ _ _ _
    rw [wX8_takeAway_23]
    simp (disch := omega) only [hA.1, fa_lit, nI_ltI, nI_leI, nI_eq, nI_add, pk_mul, nI_clamp, vp_in_nI, l_uk, l_n1, l_n1e, l_n1e2, l_n1l, l_n1l2, l_n1l3, not_true_eq_false, not_false_eq_true, true_implies, false_implies, true_and, and_true, and_self, forall_eq, bI_t, bI_f, Bool.false_eq_true, or_true, true_or, or_false, false_or, s1_ltx, if_true, if_false, Nat.add_zero, Nat.zero_add,  d_leF, d_leT, d_ltF, d_ltT, d_eqF, d_eqT]
    exact e
  · intro f i _ hi hI hk
    have hno : (!G i && decide (A.getD i [] = B.getD s [])) = false → wX8_takeAway_23 (nI a) (nI b) K post f (nI s) (nI (i + 1)) I := fun e => hk () (fun r hr => by
      by_cases e2 : r = i
      · subst e2; exact e
      · exact hI r (by omega))
    show wX8_takeAway_23 _ _ _ _ _ _ _ _
    rw [wX8_takeAway_23]
    have g := hG i (by omega)
    cases e : G i
    · rw [e] at g hno
      simp (disch := omega) only [hA.1, g, fa_lit, nI_ltI, nI_leI, nI_eq, nI_add, pk_mul, nI_clamp, vp_in_nI, l_uk, l_n1, l_n1e, l_n1e2, l_n1l, l_n1l2, l_n1l3, not_true_eq_false, not_false_eq_true, true_implies, false_implies, true_and, and_true, and_self, forall_eq, bI_t, bI_f, Bool.false_eq_true, or_true, true_or, or_false, false_or, s1_ltx, if_true, if_false, Nat.add_zero, Nat.zero_add,  d_leF, d_leT, d_ltF, d_ltT, d_eqF, d_eqT]
      refine m_areSame hP hw ha hb hA hB hwa hw6 hi (by omega) hs (by omega) ?_
      cases e2 : decide (A.getD i [] = B.getD s [])
      · rw [e2] at hno
        simp (disch := omega) only [fa_lit, nI_ltI, nI_leI, nI_eq, nI_add, pk_mul, nI_clamp, vp_in_nI, l_uk, l_n1, l_n1e, l_n1e2, l_n1l, l_n1l2, l_n1l3, not_true_eq_false, not_false_eq_true, true_implies, false_implies, true_and, and_true, and_self, forall_eq, bI_t, bI_f, Bool.false_eq_true, or_true, true_or, or_false, false_or, s1_ltx, if_true, if_false, Nat.add_zero, Nat.zero_add,  d_leF, d_leT, d_ltF, d_ltT, d_eqF, d_eqT]
        exact hno rfl
      · have e3 := h1 i hi (srch_i (by rw [e, e2]; rfl) hI hi)
        simp (disch := omega) only [fa_lit, nI_ltI, nI_leI, nI_eq, nI_add, pk_mul, nI_clamp, vp_in_nI, l_uk, l_n1, l_n1e, l_n1e2, l_n1l, l_n1l2, l_n1l3, not_true_eq_false, not_false_eq_true, true_implies, false_implies, true_and, and_true, and_self, forall_eq, bI_t, bI_f, Bool.false_eq_true, or_true, true_or, or_false, false_or, s1_ltx, if_true, if_false, Nat.add_zero, Nat.zero_add,  d_leF, d_leT, d_ltF, d_ltT, d_eqF, d_eqT]
        exact e3
    · rw [e] at g hno
      simp (disch := omega) only [hA.1, g, fa_lit, nI_ltI, nI_leI, nI_eq, nI_add, pk_mul, nI_clamp, vp_in_nI, l_uk, l_n1, l_n1e, l_n1e2, l_n1l, l_n1l2, l_n1l3, not_true_eq_false, not_false_eq_true, true_implies, false_implies, true_and, and_true, and_self, forall_eq, bI_t, bI_f, Bool.false_eq_true, or_true, true_or, or_false, false_or, s1_ltx, if_true, if_false, Nat.add_zero, Nat.zero_add,  d_leF, d_leT, d_ltF, d_ltT, d_eqF, d_eqT]
      exact hno rfl
theorem m_takeAway {I : QI} {T : QT} {P : List Nd} (hP : Pm I P) (hw : Pw T P) {a b w : Nat} {A B : List (List Int32)} (ha : a < P.length) (hb : b < 24) (hA : Hm I a A w) (hB : Hm I b B w) (hwa : (nd P a).2.2.2.2.2.2 = w) (hw6 : w ≤ 6) (lA : A.length ≤ 200) (lB : B.length ≤ 200) {post : QI → Prop} (h : ∀ I2 : QI, (∀ b, b ≠ 68 → I2 b = I b) → (∀ k, k < 400 → I2 68 k = bI (tkm A B B.length k)) → post I2) : wX8_takeAway (nI a) (nI b) I post := by
  have h24 := hw.1
  unfold wX8_takeAway
  refine m_fill (fun I2 hF2 hG2 => ?_)
  refine lp (fun f j (I3 : QI) => wX8_takeAway_10 (nI a) (nI b) post f (nI j) I3) (fun j I3 => (∀ b, b ≠ 68 → I3 b = I b) ∧ ∀ k, k < 400 → I3 68 k = bI (tkm A B j k)) B.length ?_ ?_ 0 I2 (Nat.zero_le _) ⟨hF2, hG2⟩
  · rintro f I3 ⟨hF, hG⟩
    show wX8_takeAway_10 _ _ _ _ _ _
    rw [wX8_takeAway_10]
    simp (disch := omega) only [(hB.one hF).1, fa_lit, nI_ltI, nI_leI, nI_eq, nI_add, pk_mul, nI_clamp, vp_in_nI, l_uk, l_n1, l_n1e, l_n1e2, l_n1l, l_n1l2, l_n1l3, not_true_eq_false, not_false_eq_true, true_implies, false_implies, true_and, and_true, and_self, forall_eq, bI_t, bI_f, Bool.false_eq_true, or_true, true_or, or_false, false_or, s1_ltx, if_true, if_false, Nat.add_zero, Nat.zero_add,  d_leF, d_leT, d_ltF, d_ltT, d_eqF, d_eqT]
    exact h I3 hF hG
  · rintro f j I3 hj ⟨hF, hG⟩ hk
    have hP3 : Pm I3 P := (FM.one (n := a) hF).pm hP
    show wX8_takeAway_10 _ _ _ _ _ _
    rw [wX8_takeAway_10]
    simp (disch := omega) only [(hB.one hF).1, fa_lit, nI_ltI, nI_leI, nI_eq, nI_add, pk_mul, nI_clamp, vp_in_nI, l_uk, l_n1, l_n1e, l_n1e2, l_n1l, l_n1l2, l_n1l3, not_true_eq_false, not_false_eq_true, true_implies, false_implies, true_and, and_true, and_self, forall_eq, bI_t, bI_f, Bool.false_eq_true, or_true, true_or, or_false, false_or, s1_ltx, if_true, if_false, Nat.add_zero, Nat.zero_add,  d_leF, d_leT, d_ltF, d_ltT, d_eqF, d_eqT]
    refine m_takeAway_23 hP3 hw ha hb (hA.one hF) (hB.one hF) hwa hw6 lA lB hj hG (fun i hi e => ?_) (fun e => ?_)
    · obtain ⟨e1, e2, e3⟩ := srch_si e
      have g := hG i (by omega)
      have gf : tkm A B j i = false := by
        cases e4 : tkm A B j i
        · rfl
        · rw [e4] at e2; cases e2
      rw [gf] at g
      simp (disch := omega) only [g, (hA.one hF).1, fa_lit, nI_ltI, nI_leI, nI_eq, nI_add, pk_mul, nI_clamp, vp_in_nI, l_uk, l_n1, l_n1e, l_n1e2, l_n1l, l_n1l2, l_n1l3, not_true_eq_false, not_false_eq_true, true_implies, false_implies, true_and, and_true, and_self, forall_eq, bI_t, bI_f, Bool.false_eq_true, or_true, true_or, or_false, false_or, s1_ltx, if_true, if_false, Nat.add_zero, Nat.zero_add,  d_leF, d_leT, d_ltF, d_ltT, d_eqF, d_eqT]
      refine hk _ ⟨fr_u2 hF, ?_⟩
      rw [tkm, e]
      exact ar_u2 (x := true) hG
    · have g := hG A.length (by omega)
      rw [tkm_hi (Nat.le_refl _)] at g
      simp (disch := omega) only [g, (hA.one hF).1, fa_lit, nI_ltI, nI_leI, nI_eq, nI_add, pk_mul, nI_clamp, vp_in_nI, l_uk, l_n1, l_n1e, l_n1e2, l_n1l, l_n1l2, l_n1l3, not_true_eq_false, not_false_eq_true, true_implies, false_implies, true_and, and_true, and_self, forall_eq, bI_t, bI_f, Bool.false_eq_true, or_true, true_or, or_false, false_or, s1_ltx, if_true, if_false, Nat.add_zero, Nat.zero_add,  d_leF, d_leT, d_ltF, d_ltT, d_eqF, d_eqT]
      refine hk _ ⟨fr_u2 hF, ?_⟩
      rw [tkm, e]
      exact ar_same (x := false) hG (tkm_hi (Nat.le_refl _))
theorem gdA {A B : List (List Int32)} {j : Nat} (h : j < A.length) : (A ++ B).getD j [] = A.getD j [] := by
  rw [List.getD_eq_getElem?_getD, List.getElem?_append_left h, ← List.getD_eq_getElem?_getD]
theorem gdB {A B : List (List Int32)} {j : Nat} (h : A.length ≤ j) : (A ++ B).getD j [] = B.getD (j - A.length) [] := by
  rw [List.getD_eq_getElem?_getD, List.getElem?_append_right h, ← List.getD_eq_getElem?_getD]
def mkB (C : List (List Int32)) (k i : Nat) : Bool := !decide (∀ j, j < i → ¬ C.getD j [] = C.getD k [])
theorem mkB_s (C : List (List Int32)) (k i : Nat) : mkB C k (i + 1) = (mkB C k i || decide (C.getD i [] = C.getD k [])) := by
  unfold mkB
  by_cases e : C.getD i [] = C.getD k []
  · rw [decide_eq_true e, decide_eq_false (fun z => z i (by omega) e), Bool.or_true]
    rfl
  · rw [decide_eq_false e, Bool.or_false]
    congr 1
    refine decide_eq_decide.mpr ⟨fun z j hj => z j (by omega), fun z j hj => ?_⟩
    by_cases e2 : j = i
    · subst e2; exact e
    · exact z j (by omega)
/-- two nodes whose rows stand one behind the other -/
def Cm (I : QI) (P : List Nd) (a b w : Nat) (A B : List (List Int32)) : Prop := a < P.length ∧ b < P.length ∧ Hm I a A w ∧ Hm I b B w ∧ (nd P a).2.2.2.2.2.2 = w ∧ (nd P b).2.2.2.2.2.2 = w ∧ w ≤ 6 ∧ A.length ≤ 200 ∧ B.length ≤ 200
theorem Cm.one {I I2 : QI} {P : List Nd} {a b w : Nat} {A B : List (List Int32)} (h : Cm I P a b w A B) (hF : ∀ b, b ≠ 68 → I2 b = I b) : Cm I2 P a b w A B := by
  obtain ⟨h1, h2, h3, h4, h5⟩ := h
  exact ⟨h1, h2, h3.one hF, h4.one hF, h5⟩
theorem m_markAgain_70 {I : QI} {T : QT} {P : List Nd} (hP : Pm I P) (hw : Pw T P) {a b w k m r : Nat} {A B D : List (List Int32)} (hC : Cm I P a b w A B) (hk : k < A.length + B.length) (hm : m < 24) (hD : Hm I m D w) (hr : r < D.length) (lD : D.length ≤ 200) (hrk : D.getD r [] = (A ++ B).getD k []) {G : Nat → Bool} (hG : ∀ i, i < k → I 68 i = bI (G i)) (hGk : I 68 k = bI false) {K : Int32 → QI → Prop} {post : QI → Prop} (h : ∀ I2 : QI, (∀ b, b ≠ 68 → I2 b = I b) → (∀ i, i < k → I2 68 i = bI (G i)) → I2 68 k = bI (mkB (A ++ B) k k) → K (nI k) I2) : ∃ f, wX8_markAgain_70 (nI a) (nI b) K post f (nI k) (nI m) (nI r) 0 I := by
  have h24 := hw.1
  have lA := hC.2.2.2.2.2.2.2.1
  have lB := hC.2.2.2.2.2.2.2.2
  refine lp (fun f j (I2 : QI) => wX8_markAgain_70 (nI a) (nI b) K post f (nI k) (nI m) (nI r) (nI j) I2) (fun j I2 => (∀ b, b ≠ 68 → I2 b = I b) ∧ (∀ i, i < k → I2 68 i = bI (G i)) ∧ I2 68 k = bI (mkB (A ++ B) k j)) k ?_ ?_ 0 I (Nat.zero_le _) ⟨fun _ _ => rfl, hG, by rw [hGk]; unfold mkB; rw [decide_eq_true (fun j hj => absurd hj (Nat.not_lt_zero j))]; rfl⟩
  · rintro f I2 ⟨hF, hG2, hGk2⟩
    show wX8_markAgain_70 _ _ _ _ _ _ _ _ _ _
    rw [wX8_markAgain_70]
    simp (disch := omega) only [fa_lit, nI_ltI, nI_leI, nI_eq, nI_add, pk_mul, nI_clamp, vp_in_nI, l_uk, l_n1, l_n1e, l_n1e2, l_n1l, l_n1l2, l_n1l3, not_true_eq_false, not_false_eq_true, true_implies, false_implies, true_and, and_true, and_self, forall_eq, bI_t, bI_f, Bool.false_eq_true, or_true, true_or, or_false, false_or, s1_ltx, if_true, if_false, Nat.add_zero, Nat.zero_add,  d_leF, d_leT, d_ltF, d_ltT, d_eqF, d_eqT]
    exact h I2 hF hG2 hGk2
  · rintro f j I2 hj ⟨hF, hG2, hGk2⟩ hkk
    obtain ⟨c1, c2, c3, c4, c5, c6, c7, c8, c9⟩ := hC.one hF
    have hP2 : Pm I2 P := (FM.one (n := a) hF).pm hP
    have nx : ∀ x : Bool, x = mkB (A ++ B) k (j + 1) → wX8_markAgain_70 (nI a) (nI b) K post f (nI k) (nI m) (nI r) (nI (j + 1)) (q_u2 I2 68 k (bI x)) := by
      intro x hx
      refine hkk _ ⟨fr_u2 hF, fun i hi => ?_, ?_⟩
      · rw [q_u2_j _ _ _ (by omega)]
        exact hG2 i hi
      · rw [q_u2_s, hx]
    rw [mkB_s] at nx
    have nt := nx true
    have nf := nx false
    rw [bI_t] at nt
    rw [bI_f] at nf
    show wX8_markAgain_70 _ _ _ _ _ _ _ _ _ _
    rw [wX8_markAgain_70]
    cases e : mkB (A ++ B) k j
    · rw [e] at hGk2 nt nf
      by_cases e2 : j < A.length
      · rw [gdA e2, ← hrk] at nt nf
        simp (disch := omega) only [hGk2, c3.1, fa_lit, nI_ltI, nI_leI, nI_eq, nI_add, pk_mul, nI_clamp, vp_in_nI, l_uk, l_n1, l_n1e, l_n1e2, l_n1l, l_n1l2, l_n1l3, not_true_eq_false, not_false_eq_true, true_implies, false_implies, true_and, and_true, and_self, forall_eq, bI_t, bI_f, Bool.false_eq_true, or_true, true_or, or_false, false_or, s1_ltx, if_true, if_false, Nat.add_zero, Nat.zero_add,  d_leF, d_leT, d_ltF, d_ltT, d_eqF, d_eqT]
        refine m_areSame hP2 hw c1 hm c3 (hD.one hF) c5 c7 e2 (by omega) hr (by omega) ?_
        cases e3 : decide (A.getD j [] = D.getD r [])
        · rw [e3] at nf
          simp (disch := omega) only [fa_lit, nI_ltI, nI_leI, nI_eq, nI_add, pk_mul, nI_clamp, vp_in_nI, l_uk, l_n1, l_n1e, l_n1e2, l_n1l, l_n1l2, l_n1l3, not_true_eq_false, not_false_eq_true, true_implies, false_implies, true_and, and_true, and_self, forall_eq, bI_t, bI_f, Bool.false_eq_true, or_true, true_or, or_false, false_or, s1_ltx, if_true, if_false, Nat.add_zero, Nat.zero_add,  d_leF, d_leT, d_ltF, d_ltT, d_eqF, d_eqT]
          exact nf rfl
        · rw [e3] at nt
          simp (disch := omega) only [fa_lit, nI_ltI, nI_leI, nI_eq, nI_add, pk_mul, nI_clamp, vp_in_nI, l_uk, l_n1, l_n1e, l_n1e2, l_n1l, l_n1l2, l_n1l3, not_true_eq_false, not_false_eq_true, true_implies, false_implies, true_and, and_true, and_self, forall_eq, bI_t, bI_f, Bool.false_eq_true, or_true, true_or, or_false, false_or, s1_ltx, if_true, if_false, Nat.add_zero, Nat.zero_add,  d_leF, d_leT, d_ltF, d_ltT, d_eqF, d_eqT]
          exact nt rfl
      · rw [gdB (by omega), ← hrk] at nt nf
        simp (disch := omega) only [hGk2, c3.1, pk_sub, fa_lit, nI_ltI, nI_leI, nI_eq, nI_add, pk_mul, nI_clamp, vp_in_nI, l_uk, l_n1, l_n1e, l_n1e2, l_n1l, l_n1l2, l_n1l3, not_true_eq_false, not_false_eq_true, true_implies, false_implies, true_and, and_true, and_self, forall_eq, bI_t, bI_f, Bool.false_eq_true, or_true, true_or, or_false, false_or, s1_ltx, if_true, if_false, Nat.add_zero, Nat.zero_add,  d_leF, d_leT, d_ltF, d_ltT, d_eqF, d_eqT]
        refine m_areSame hP2 hw c2 hm c4 (hD.one hF) c6 c7 (by omega) (by omega) hr (by omega) ?_
        cases e3 : decide (B.getD (j - A.length) [] = D.getD r [])
        · rw [e3] at nf
          simp (disch := omega) only [fa_lit, nI_ltI, nI_leI, nI_eq, nI_add, pk_mul, nI_clamp, vp_in_nI, l_uk, l_n1, l_n1e, l_n1e2, l_n1l, l_n1l2, l_n1l3, not_true_eq_false, not_false_eq_true, true_implies, false_implies, true_and, and_true, and_self, forall_eq, bI_t, bI_f, Bool.false_eq_true, or_true, true_or, or_false, false_or, s1_ltx, if_true, if_false, Nat.add_zero, Nat.zero_add,  d_leF, d_leT, d_ltF, d_ltT, d_eqF, d_eqT]
          exact nf rfl
        · rw [e3] at nt
          simp (disch := omega) only [fa_lit, nI_ltI, nI_leI, nI_eq, nI_add, pk_mul, nI_clamp, vp_in_nI, l_uk, l_n1, l_n1e, l_n1e2, l_n1l, l_n1l2, l_n1l3, not_true_eq_false, not_false_eq_true, true_implies, false_implies, true_and, and_true, and_self, forall_eq, bI_t, bI_f, Bool.false_eq_true, or_true, true_or, or_false, false_or, s1_ltx, if_true, if_false, Nat.add_zero, Nat.zero_add,  d_leF, d_leT, d_ltF, d_ltT, d_eqF, d_eqT]
          exact nt rfl
    · rw [e] at hGk2 nt
      simp (disch := omega) only [hGk2, fa_lit, nI_ltI, nI_leI, nI_eq, nI_add, pk_mul, nI_clamp, vp_in_nI, l_uk, l_n1, l_n1e, l_n1e2, l_n1l, l_n1l2, l_n1l3, not_true_eq_false, not_false_eq_true, true_implies, false_implies, true_and, and_true, and_self, forall_eq, bI_t, bI_f, Bool.false_eq_true, or_true, true_or, or_false, false_or, s1_ltx, if_true, if_false, Nat.add_zero, Nat.zero_add,  d_leF, d_leT, d_ltF, d_ltT, d_eqF, d_eqT]
      exact nt rfl
theorem m_markAgain {I : QI} {T : QT} {P : List Nd} (hP : Pm I P) (hw : Pw T P) {a b w : Nat} {A B : List (List Int32)} (hC : Cm I P a b w A B) {post : QI → Prop} (h : ∀ I2 : QI, (∀ b, b ≠ 68 → I2 b = I b) → (∀ k, k < A.length + B.length → I2 68 k = bI (mkB (A ++ B) k k)) → post I2) : wX8_markAgain (nI a) (nI b) I post := by
  have h24 := hw.1
  unfold wX8_markAgain
  refine lp (fun f k (I2 : QI) => wX8_markAgain_2 (nI a) (nI b) post f (nI k) I2) (fun k I2 => (∀ b, b ≠ 68 → I2 b = I b) ∧ ∀ i, i < k → I2 68 i = bI (mkB (A ++ B) i i)) (A.length + B.length) ?_ ?_ 0 I (Nat.zero_le _) ⟨fun _ _ => rfl, fun c hc => absurd hc (Nat.not_lt_zero c)⟩
  · rintro f I2 ⟨hF, hG⟩
    obtain ⟨c1, c2, c3, c4, c5, c6, c7, c8, c9⟩ := hC.one hF
    show wX8_markAgain_2 _ _ _ _ _ _
    rw [wX8_markAgain_2]
    simp (disch := omega) only [c3.1, c4.1, fa_lit, nI_ltI, nI_leI, nI_eq, nI_add, pk_mul, nI_clamp, vp_in_nI, l_uk, l_n1, l_n1e, l_n1e2, l_n1l, l_n1l2, l_n1l3, not_true_eq_false, not_false_eq_true, true_implies, false_implies, true_and, and_true, and_self, forall_eq, bI_t, bI_f, Bool.false_eq_true, or_true, true_or, or_false, false_or, s1_ltx, if_true, if_false, Nat.add_zero, Nat.zero_add,  d_leF, d_leT, d_ltF, d_ltT, d_eqF, d_eqT]
    exact h I2 hF hG
  · rintro f k I2 hk ⟨hF, hG⟩ hkk
    have hC2 := hC.one hF
    obtain ⟨c1, c2, c3, c4, c5, c6, c7, c8, c9⟩ := hC.one hF
    have hP2 : Pm I2 P := (FM.one (n := a) hF).pm hP
    have hF3 : ∀ b, b ≠ 68 → q_u2 I2 68 k (nI 0) b = I2 b := fun b hb => nr_u2 hb
    have hG3 : ∀ i, i < k → q_u2 I2 68 k (nI 0) 68 i = bI (mkB (A ++ B) i i) := fun i hi => by
      rw [q_u2_j _ _ _ (by omega)]
      exact hG i hi
    have hend : ∀ I4 : QI, (∀ b, b ≠ 68 → I4 b = q_u2 I2 68 k (nI 0) b) → (∀ i, i < k → I4 68 i = bI (mkB (A ++ B) i i)) → I4 68 k = bI (mkB (A ++ B) k k) → wX8_markAgain_2 (nI a) (nI b) post f (nI (k + 1)) I4 := fun I4 a1 a2 a3 => hkk I4 ⟨fun b hb => by rw [a1 b hb, hF3 b hb, hF b hb], fun i hi => by
      by_cases e : i = k
      · subst e; exact a3
      · exact a2 i (by omega)⟩
    show wX8_markAgain_2 _ _ _ _ _ _
    rw [wX8_markAgain_2]
    by_cases e : k < A.length
    · simp (disch := omega) only [c3.1, c4.1, fa_lit, nI_ltI, nI_leI, nI_eq, nI_add, pk_mul, nI_clamp, vp_in_nI, l_uk, l_n1, l_n1e, l_n1e2, l_n1l, l_n1l2, l_n1l3, not_true_eq_false, not_false_eq_true, true_implies, false_implies, true_and, and_true, and_self, forall_eq, bI_t, bI_f, Bool.false_eq_true, or_true, true_or, or_false, false_or, s1_ltx, if_true, if_false, Nat.add_zero, Nat.zero_add,  d_leF, d_leT, d_ltF, d_ltT, d_eqF, d_eqT]
      refine m_markAgain_70 ((FM.one (n := a) hF3).pm hP2) hw (hC2.one hF3) hk (by omega) (c3.one hF3) e (by omega) (gdA e).symm hG3 (q_u2_s _ _ _ _) (fun I4 a1 a2 a3 => ?_)
      simp (disch := omega) only [fa_lit, nI_ltI, nI_leI, nI_eq, nI_add, pk_mul, nI_clamp, vp_in_nI, l_uk, l_n1, l_n1e, l_n1e2, l_n1l, l_n1l2, l_n1l3, not_true_eq_false, not_false_eq_true, true_implies, false_implies, true_and, and_true, and_self, forall_eq, bI_t, bI_f, Bool.false_eq_true, or_true, true_or, or_false, false_or, s1_ltx, if_true, if_false, Nat.add_zero, Nat.zero_add,  d_leF, d_leT, d_ltF, d_ltT, d_eqF, d_eqT]
      exact hend I4 a1 a2 a3
    · simp (disch := omega) only [c3.1, c4.1, pk_sub, fa_lit, nI_ltI, nI_leI, nI_eq, nI_add, pk_mul, nI_clamp, vp_in_nI, l_uk, l_n1, l_n1e, l_n1e2, l_n1l, l_n1l2, l_n1l3, not_true_eq_false, not_false_eq_true, true_implies, false_implies, true_and, and_true, and_self, forall_eq, bI_t, bI_f, Bool.false_eq_true, or_true, true_or, or_false, false_or, s1_ltx, if_true, if_false, Nat.add_zero, Nat.zero_add,  d_leF, d_leT, d_ltF, d_ltT, d_eqF, d_eqT]
      refine m_markAgain_70 ((FM.one (n := a) hF3).pm hP2) hw (hC2.one hF3) hk (by omega) (c4.one hF3) (by omega) (by omega) (gdB (by omega)).symm hG3 (q_u2_s _ _ _ _) (fun I4 a1 a2 a3 => ?_)
      simp (disch := omega) only [fa_lit, nI_ltI, nI_leI, nI_eq, nI_add, pk_mul, nI_clamp, vp_in_nI, l_uk, l_n1, l_n1e, l_n1e2, l_n1l, l_n1l2, l_n1l3, not_true_eq_false, not_false_eq_true, true_implies, false_implies, true_and, and_true, and_self, forall_eq, bI_t, bI_f, Bool.false_eq_true, or_true, true_or, or_false, false_or, s1_ltx, if_true, if_false, Nat.add_zero, Nat.zero_add,  d_leF, d_leT, d_ltF, d_ltT, d_eqF, d_eqT]
      exact hend I4 a1 a2 a3
