/-! pure: the reference gives bags (whole) -/
theorem kp_cg {A B : List (List Int32)} {G H : Nat → Bool} {tk : Bool} : ∀ {i : Nat}, (∀ k, k < i → A.getD k [] = B.getD k []) → (∀ k, k < i → G k = H k) → kp A G tk i = kp B H tk i
  | 0, _, _ => rfl
  | i + 1, h1, h2 => by
    rw [kp, kp, kp_cg (i := i) (fun k hk => h1 k (by omega)) (fun k hk => h2 k (by omega)), h1 i (by omega), h2 i (by omega)]
theorem kp_all {C : List (List Int32)} : ∀ {i : Nat}, i ≤ C.length → kp C (fun _ => false) false i = C.take i
  | 0, _ => by rw [List.take_zero]; rfl
  | i + 1, h => by
    rw [kp, if_pos rfl, kp_all (by omega), getD_take (by omega)]
theorem ddN_mem {C : List (List Int32)} {x : List Int32} : ∀ {i : Nat}, x ∈ ddN [] C i ↔ ∃ j, j < i ∧ C.getD j [] = x
  | 0 => ⟨fun h => (by cases h), fun ⟨j, h, _⟩ => absurd h (Nat.not_lt_zero j)⟩
  | i + 1 => by
    have ih := ddN_mem (C := C) (x := x) (i := i)
    rw [ddN]
    constructor
    · intro h
      by_cases e : C.getD i [] ∈ ddN [] C i
      · rw [if_pos e] at h
        obtain ⟨j, h1, h2⟩ := ih.mp h
        exact ⟨j, by omega, h2⟩
      · rw [if_neg e] at h
        rcases List.mem_append.mp h with h | h
        · obtain ⟨j, h1, h2⟩ := ih.mp h
          exact ⟨j, by omega, h2⟩
        · exact ⟨i, by omega, (List.mem_singleton.mp h).symm⟩
    · rintro ⟨j, h1, h2⟩
      by_cases e : C.getD i [] ∈ ddN [] C i
      · rw [if_pos e]
        by_cases e2 : j = i
        · subst e2
          rw [← h2]
          exact e
        · exact ih.mpr ⟨j, by omega, h2⟩
      · rw [if_neg e]
        by_cases e2 : j = i
        · subst e2
          exact List.mem_append.mpr (Or.inr (List.mem_singleton.mpr h2.symm))
        · exact List.mem_append.mpr (Or.inl (ih.mpr ⟨j, by omega, h2⟩))
theorem ddN_kp {C : List (List Int32)} : ∀ {i : Nat}, kp C (fun k => mkB C k k) false i = ddN [] C i
  | 0 => rfl
  | i + 1 => by
    rw [kp, ddN, ddN_kp (i := i)]
    by_cases e : C.getD i [] ∈ ddN [] C i
    · obtain ⟨j, h1, h2⟩ := ddN_mem.mp e
      have e2 : mkB C i i = true := by
        unfold mkB
        rw [decide_eq_false (fun z => z j h1 h2)]
        rfl
      rw [if_pos e, e2]
      rfl
    · have e2 : mkB C i i = false := by
        unfold mkB
        rw [decide_eq_true (show ∀ j, j < i → ¬ C.getD j [] = C.getD i [] from fun j hj z => e (ddN_mem.mpr ⟨j, hj, z⟩))]
        rfl
      rw [if_neg e, e2]
      rfl
theorem ddN_cg {R A B : List (List Int32)} : ∀ {i : Nat}, (∀ k, k < i → A.getD k [] = B.getD k []) → ddN R A i = ddN R B i
  | 0, _ => rfl
  | i + 1, h => by rw [ddN, ddN, ddN_cg (i := i) (fun k hk => h k (by omega)), h i (by omega)]
theorem ddN_app {A B : List (List Int32)} : ∀ {i : Nat}, ddN (ddN [] A A.length) B i = ddN [] (A ++ B) (A.length + i)
  | 0 => ddN_cg (fun k hk => (gdA hk).symm)
  | i + 1 => by
    rw [ddN, ← Nat.add_assoc, ddN, ddN_app (i := i), gdB (by omega), show A.length + i - A.length = i by omega]
theorem m_giveBag_80 {I : QI} {T : QT} {P : List Nd} (hP : Pm I P) (hw : Pw T P) {n a b w k : Nat} {A B : List (List Int32)} {both tk : Bool} (hn : n < P.length) (ha : a < n) (hb : b < n) (hC : Cm I P a b w A B) (hk4 : k < 4) (htk : tk = decide (k = 2)) {N : Nat} (hN : N = A.length + (if both then B.length else 0)) {G : Nat → Bool} (hG : ∀ i, i < N → I 68 i = bI (G i)) (hR : Hm I n [] w) {post : QI → Prop} (h : ∀ I2 : QI, FM n I I2 → Hm I2 n (kp (A ++ B) G tk N) w → post I2) : ∃ f, wX8_giveBag_80 (nI n) post f (nI a) (nI b) (nI k) (bI both) 0 I := by
  have h24 := hw.1
  have hC0 := hC
  obtain ⟨c1, c2, c3, c4, c5, c6, c7, c8, c9⟩ := hC
  have hN4 : N ≤ 400 := by rw [hN]; split <;> omega
  have cfa : ∀ I2, FM n I I2 → Hm I2 a A w ∧ Hm I2 b B w := fun I2 hF => ⟨c3.fa hF (by omega) c7, c4.fa hF (by omega) c7⟩
  refine lp (fun f i (I2 : QI) => wX8_giveBag_80 (nI n) post f (nI a) (nI b) (nI k) (bI both) (nI i) I2) (fun i I2 => FM n I I2 ∧ I2 68 = I 68 ∧ Hm I2 n (kp (A ++ B) G tk i) w) N ?_ ?_ 0 I (Nat.zero_le _) ⟨FM.rf _ _, rfl, hR⟩
  · rintro f I2 ⟨hF, h68, hH⟩
    have e1 := (cfa I2 hF).1.1
    have e2 := (cfa I2 hF).2.1
    have := h I2 hF hH
    show wX8_giveBag_80 _ _ _ _ _ _ _ _ _
    rw [wX8_giveBag_80]
    cases both
    · have e3 : N = A.length := hN
      simp (disch := omega) only [e1, e3, fa_lit, nI_ltI, nI_leI, nI_eq, nI_add, pk_mul, nI_clamp, vp_in_nI, l_uk, l_n1, l_n1e, l_n1e2, l_n1l, l_n1l2, l_n1l3, not_true_eq_false, not_false_eq_true, true_implies, false_implies, true_and, and_true, and_self, forall_eq, bI_t, bI_f, Bool.false_eq_true, or_true, true_or, or_false, false_or, s1_ltx, if_true, if_false, Nat.add_zero, Nat.zero_add,  d_leF, d_leT, d_ltF, d_ltT, d_eqF, d_eqT]
      exact this
    · have e3 : N = A.length + B.length := hN
      simp (disch := omega) only [e1, e2, e3, fa_lit, nI_ltI, nI_leI, nI_eq, nI_add, pk_mul, nI_clamp, vp_in_nI, l_uk, l_n1, l_n1e, l_n1e2, l_n1l, l_n1l2, l_n1l3, not_true_eq_false, not_false_eq_true, true_implies, false_implies, true_and, and_true, and_self, forall_eq, bI_t, bI_f, Bool.false_eq_true, or_true, true_or, or_false, false_or, s1_ltx, if_true, if_false, Nat.add_zero, Nat.zero_add,  d_leF, d_leT, d_ltF, d_ltT, d_eqF, d_eqT]
      exact this
  · rintro f i I2 hi ⟨hF, h68, hH⟩ hkk
    have e1 := (cfa I2 hF).1.1
    have e2 := (cfa I2 hF).2.1
    have l9 := kp_le (A ++ B) G tk i
    have g : I2 68 i = bI (G i) := by rw [h68]; exact hG i hi
    have cp : G i = tk → ∀ (m r : Nat) (D : List (List Int32)), m < n → Hm I2 m D w → (nd P m).2.2.2.2.2.2 = w → r < D.length → r < 200 → D.getD r [] = (A ++ B).getD i [] → wX8_copyRow (nI n) (nI m) (nI r) (nI 0) I2 (fun I6 => wX8_giveBag_80 (nI n) post f (nI a) (nI b) (nI k) (bI both) (nI (i + 1)) (q_u2 I6 64 n (I6 64 n + nI 1))) := by
      intro eg m r D hm hD hmw hr hr2 hrc
      refine m_copyRow (wa := 0) (w := w) (hF.pm hP) hw (Wm.z I2 n (kp (A ++ B) G tk i).length (fun c => (D.getD r []).getD c UK)) hH.1 (by omega) (by omega) (by omega) (by omega) hD hmw (by omega) hr hr2 (fun c hc => by rw [Nat.zero_add]) (fun I3 hW => ?_)
      rw [Nat.zero_add] at hW
      obtain ⟨x, y, z⟩ := hW.fin hH c7
      have e64 : I3 64 n = nI (kp (A ++ B) G tk i).length := by rw [hW.1 64 (by omega), hH.1]
      rw [e64, nI_add]
      refine hkk _ ⟨hF.tr x, z.trans h68, ?_⟩
      rw [kp, if_pos eg, ← hrc]
      rw [row_map (hD.2 r hr hr2)] at y
      exact y
    have nc : ¬ G i = tk → wX8_giveBag_80 (nI n) post f (nI a) (nI b) (nI k) (bI both) (nI (i + 1)) I2 := by
      intro eg
      refine hkk I2 ⟨hF, h68, ?_⟩
      rw [kp, if_neg eg]
      exact hH
    have cpA : G i = tk → i < A.length → _ := fun eg hi2 => cp eg a i A ha (cfa I2 hF).1 c5 hi2 (by omega) (gdA hi2).symm
    have cpB : G i = tk → A.length ≤ i → i < A.length + B.length → _ := fun eg hi2 hi3 => cp eg b (i - A.length) B hb (cfa I2 hF).2 c6 (by omega) (by omega) (gdB hi2).symm
    show wX8_giveBag_80 _ _ _ _ _ _ _ _ _
    rw [wX8_giveBag_80]
    by_cases k2 : k = 2
    · have etk : tk = true := by rw [htk]; exact decide_eq_true k2
      rw [etk] at nc cpA cpB
      cases eg : G i
      · rw [eg] at g nc
        cases both
        · have e3 : N = A.length := hN
          simp (disch := omega) only [e1, g, fa_lit, nI_ltI, nI_leI, nI_eq, nI_add, pk_mul, nI_clamp, vp_in_nI, l_uk, l_n1, l_n1e, l_n1e2, l_n1l, l_n1l2, l_n1l3, not_true_eq_false, not_false_eq_true, true_implies, false_implies, true_and, and_true, and_self, forall_eq, bI_t, bI_f, Bool.false_eq_true, or_true, true_or, or_false, false_or, s1_ltx, if_true, if_false, Nat.add_zero, Nat.zero_add,  d_leF, d_leT, d_ltF, d_ltT, d_eqF, d_eqT]
          exact nc (by decide)
        · have e3 : N = A.length + B.length := hN
          simp (disch := omega) only [e1, e2, g, fa_lit, nI_ltI, nI_leI, nI_eq, nI_add, pk_mul, nI_clamp, vp_in_nI, l_uk, l_n1, l_n1e, l_n1e2, l_n1l, l_n1l2, l_n1l3, not_true_eq_false, not_false_eq_true, true_implies, false_implies, true_and, and_true, and_self, forall_eq, bI_t, bI_f, Bool.false_eq_true, or_true, true_or, or_false, false_or, s1_ltx, if_true, if_false, Nat.add_zero, Nat.zero_add,  d_leF, d_leT, d_ltF, d_ltT, d_eqF, d_eqT]
          exact nc (by decide)
      · rw [eg] at g cpA cpB
        cases both
        · have e3 : N = A.length := hN
          simp (disch := omega) only [e1, g, fa_lit, nI_ltI, nI_leI, nI_eq, nI_add, pk_mul, nI_clamp, vp_in_nI, l_uk, l_n1, l_n1e, l_n1e2, l_n1l, l_n1l2, l_n1l3, not_true_eq_false, not_false_eq_true, true_implies, false_implies, true_and, and_true, and_self, forall_eq, bI_t, bI_f, Bool.false_eq_true, or_true, true_or, or_false, false_or, s1_ltx, if_true, if_false, Nat.add_zero, Nat.zero_add,  d_leF, d_leT, d_ltF, d_ltT, d_eqF, d_eqT]
          exact cpA rfl (by omega)
        · have e3 : N = A.length + B.length := hN
          by_cases e4 : i < A.length
          · simp (disch := omega) only [e1, e2, g, fa_lit, nI_ltI, nI_leI, nI_eq, nI_add, pk_mul, nI_clamp, vp_in_nI, l_uk, l_n1, l_n1e, l_n1e2, l_n1l, l_n1l2, l_n1l3, not_true_eq_false, not_false_eq_true, true_implies, false_implies, true_and, and_true, and_self, forall_eq, bI_t, bI_f, Bool.false_eq_true, or_true, true_or, or_false, false_or, s1_ltx, if_true, if_false, Nat.add_zero, Nat.zero_add,  d_leF, d_leT, d_ltF, d_ltT, d_eqF, d_eqT]
            exact cpA rfl e4
          · simp (disch := omega) only [e1, e2, g, pk_sub, fa_lit, nI_ltI, nI_leI, nI_eq, nI_add, pk_mul, nI_clamp, vp_in_nI, l_uk, l_n1, l_n1e, l_n1e2, l_n1l, l_n1l2, l_n1l3, not_true_eq_false, not_false_eq_true, true_implies, false_implies, true_and, and_true, and_self, forall_eq, bI_t, bI_f, Bool.false_eq_true, or_true, true_or, or_false, false_or, s1_ltx, if_true, if_false, Nat.add_zero, Nat.zero_add,  d_leF, d_leT, d_ltF, d_ltT, d_eqF, d_eqT]
            exact cpB rfl (by omega) (by omega)
    · have etk : tk = false := by rw [htk]; exact decide_eq_false k2
      rw [etk] at nc cpA cpB
      cases eg : G i
      · rw [eg] at g cpA cpB
        cases both
        · have e3 : N = A.length := hN
          simp (disch := omega) only [e1, g, fa_lit, nI_ltI, nI_leI, nI_eq, nI_add, pk_mul, nI_clamp, vp_in_nI, l_uk, l_n1, l_n1e, l_n1e2, l_n1l, l_n1l2, l_n1l3, not_true_eq_false, not_false_eq_true, true_implies, false_implies, true_and, and_true, and_self, forall_eq, bI_t, bI_f, Bool.false_eq_true, or_true, true_or, or_false, false_or, s1_ltx, if_true, if_false, Nat.add_zero, Nat.zero_add,  d_leF, d_leT, d_ltF, d_ltT, d_eqF, d_eqT]
          exact cpA rfl (by omega)
        · have e3 : N = A.length + B.length := hN
          by_cases e4 : i < A.length
          · simp (disch := omega) only [e1, e2, g, fa_lit, nI_ltI, nI_leI, nI_eq, nI_add, pk_mul, nI_clamp, vp_in_nI, l_uk, l_n1, l_n1e, l_n1e2, l_n1l, l_n1l2, l_n1l3, not_true_eq_false, not_false_eq_true, true_implies, false_implies, true_and, and_true, and_self, forall_eq, bI_t, bI_f, Bool.false_eq_true, or_true, true_or, or_false, false_or, s1_ltx, if_true, if_false, Nat.add_zero, Nat.zero_add,  d_leF, d_leT, d_ltF, d_ltT, d_eqF, d_eqT]
            exact cpA rfl e4
          · simp (disch := omega) only [e1, e2, g, pk_sub, fa_lit, nI_ltI, nI_leI, nI_eq, nI_add, pk_mul, nI_clamp, vp_in_nI, l_uk, l_n1, l_n1e, l_n1e2, l_n1l, l_n1l2, l_n1l3, not_true_eq_false, not_false_eq_true, true_implies, false_implies, true_and, and_true, and_self, forall_eq, bI_t, bI_f, Bool.false_eq_true, or_true, true_or, or_false, false_or, s1_ltx, if_true, if_false, Nat.add_zero, Nat.zero_add,  d_leF, d_leT, d_ltF, d_ltT, d_eqF, d_eqT]
            exact cpB rfl (by omega) (by omega)
      · rw [eg] at g nc
        cases both
        · have e3 : N = A.length := hN
          simp (disch := omega) only [e1, g, fa_lit, nI_ltI, nI_leI, nI_eq, nI_add, pk_mul, nI_clamp, vp_in_nI, l_uk, l_n1, l_n1e, l_n1e2, l_n1l, l_n1l2, l_n1l3, not_true_eq_false, not_false_eq_true, true_implies, false_implies, true_and, and_true, and_self, forall_eq, bI_t, bI_f, Bool.false_eq_true, or_true, true_or, or_false, false_or, s1_ltx, if_true, if_false, Nat.add_zero, Nat.zero_add,  d_leF, d_leT, d_ltF, d_ltT, d_eqF, d_eqT]
          exact nc (by decide)
        · have e3 : N = A.length + B.length := hN
          simp (disch := omega) only [e1, e2, g, fa_lit, nI_ltI, nI_leI, nI_eq, nI_add, pk_mul, nI_clamp, vp_in_nI, l_uk, l_n1, l_n1e, l_n1e2, l_n1l, l_n1l2, l_n1l3, not_true_eq_false, not_false_eq_true, true_implies, false_implies, true_and, and_true, and_self, forall_eq, bI_t, bI_f, Bool.false_eq_true, or_true, true_or, or_false, false_or, s1_ltx, if_true, if_false, Nat.add_zero, Nat.zero_add,  d_leF, d_leT, d_ltF, d_ltT, d_eqF, d_eqT]
          exact nc (by decide)
theorem m_giveBag {I : QI} {T : QT} {P : List Nd} (hP : Pm I P) (hw : Pw T P) {n w : Nat} {A B : List (List Int32)} (hn : n < P.length) (ha : (nd P n).2.1 < n) (hb0 : (nd P n).2.2.1 ≠ 0) (hb : (nd P n).2.2.1 - 1 < n) (hC : Cm I P (nd P n).2.1 ((nd P n).2.2.1 - 1) w A B) (hk4 : (nd P n).2.2.2.1 < 4) (hR : Hm I n [] w) (h4 : (nd P n).1 = 4) {wb : Nat} {post : QI → Prop} (h : ∀ I2, FM n I I2 → Hm I2 n (fil T (nd P n) wb A B) w → post I2) : wX8_giveBag (nI n) I post := by
  have h24 := hw.1
  have hC0 := hC
  obtain ⟨c1, c2, c3, c4, c5, c6, c7, c8, c9⟩ := hC
  have o1e : o1 (nd P n) = nI (nd P n).2.2.2.1 := by unfold o1; rw [if_pos (Or.inr h4)]
  have e9 : sB (nd P n).2.2.1 = nI ((nd P n).2.2.1 - 1) := if_neg hb0
  have q := hP.2 n hn
  unfold fil at h
  rw [if_neg (by omega), if_neg (by omega), if_neg (by omega), if_neg (by omega)] at h
  generalize hK : (nd P n).2.2.2.1 = k at *
  generalize (nd P n).2.1 = a at *
  generalize (nd P n).2.2.1 - 1 = b at *
  unfold wX8_giveBag
  rcases (show k = 0 ∨ k = 1 ∨ k = 2 ∨ k = 3 by omega) with rfl | rfl | rfl | rfl
  · rw [if_pos rfl] at h
    simp (disch := omega) only [q.2.1, q.2.2.1, q.2.2.2.1, o1e, e9, fa_lit, nI_ltI, nI_leI, nI_eq, nI_add, pk_mul, nI_clamp, vp_in_nI, l_uk, l_n1, l_n1e, l_n1e2, l_n1l, l_n1l2, l_n1l3, not_true_eq_false, not_false_eq_true, true_implies, false_implies, true_and, and_true, and_self, forall_eq, bI_t, bI_f, Bool.false_eq_true, or_true, true_or, or_false, false_or, s1_ltx, if_true, if_false, Nat.add_zero, Nat.zero_add,  d_leF, d_leT, d_ltF, d_ltT, d_eqF, d_eqT]
    refine m_fill (fun I2 hF2 hG2 => ?_)
    refine m_giveBag_80 (both := true) (tk := false) (G := fun _ => false) ((FM.one (n := n) hF2).pm hP) hw hn ha hb (hC0.one hF2) hk4 rfl rfl (fun i hi => hG2 i (by simp only [if_true] at hi; omega)) (hR.one hF2) (fun I3 hF hH => ?_)
    refine h I3 ((FM.one hF2).tr hF) ?_
    rw [kp_all (by rw [List.length_append]; exact Nat.le_refl _)] at hH
    simp only [if_true] at hH
    rw [← List.length_append, List.take_length] at hH
    exact hH
  · rw [if_neg (by omega), if_neg (by omega)] at h
    simp (disch := omega) only [q.2.1, q.2.2.1, q.2.2.2.1, o1e, e9, fa_lit, nI_ltI, nI_leI, nI_eq, nI_add, pk_mul, nI_clamp, vp_in_nI, l_uk, l_n1, l_n1e, l_n1e2, l_n1l, l_n1l2, l_n1l3, not_true_eq_false, not_false_eq_true, true_implies, false_implies, true_and, and_true, and_self, forall_eq, bI_t, bI_f, Bool.false_eq_true, or_true, true_or, or_false, false_or, s1_ltx, if_true, if_false, Nat.add_zero, Nat.zero_add,  d_leF, d_leT, d_ltF, d_ltT, d_eqF, d_eqT]
    refine m_takeAway hP hw c1 (by omega) c3 c4 c5 c7 c8 c9 (fun I2 hF2 hG2 => ?_)
    refine m_giveBag_80 (both := false) (tk := false) (G := tkm A B B.length) ((FM.one (n := n) hF2).pm hP) hw hn ha hb (hC0.one hF2) hk4 rfl rfl (fun i hi => hG2 i (by simp only [Bool.false_eq_true, if_false] at hi; omega)) (hR.one hF2) (fun I3 hF hH => ?_)
    refine h I3 ((FM.one hF2).tr hF) ?_
    have hH : Hm I3 n (kp (A ++ B) (tkm A B B.length) false A.length) w := hH
    rw [kp_cg (B := A) (H := tkm A B B.length) (fun k hk => gdA hk) (fun _ _ => rfl)] at hH
    exact hH
  · rw [if_neg (by omega), if_neg (by omega)] at h
    simp (disch := omega) only [q.2.1, q.2.2.1, q.2.2.2.1, o1e, e9, fa_lit, nI_ltI, nI_leI, nI_eq, nI_add, pk_mul, nI_clamp, vp_in_nI, l_uk, l_n1, l_n1e, l_n1e2, l_n1l, l_n1l2, l_n1l3, not_true_eq_false, not_false_eq_true, true_implies, false_implies, true_and, and_true, and_self, forall_eq, bI_t, bI_f, Bool.false_eq_true, or_true, true_or, or_false, false_or, s1_ltx, if_true, if_false, Nat.add_zero, Nat.zero_add,  d_leF, d_leT, d_ltF, d_ltT, d_eqF, d_eqT]
    refine m_takeAway hP hw c1 (by omega) c3 c4 c5 c7 c8 c9 (fun I2 hF2 hG2 => ?_)
    refine m_giveBag_80 (both := false) (tk := true) (G := tkm A B B.length) ((FM.one (n := n) hF2).pm hP) hw hn ha hb (hC0.one hF2) hk4 rfl rfl (fun i hi => hG2 i (by simp only [Bool.false_eq_true, if_false] at hi; omega)) (hR.one hF2) (fun I3 hF hH => ?_)
    refine h I3 ((FM.one hF2).tr hF) ?_
    have hH : Hm I3 n (kp (A ++ B) (tkm A B B.length) true A.length) w := hH
    rw [kp_cg (B := A) (H := tkm A B B.length) (fun k hk => gdA hk) (fun _ _ => rfl)] at hH
    exact hH
  · rw [if_neg (by omega), if_pos rfl] at h
    simp (disch := omega) only [q.2.1, q.2.2.1, q.2.2.2.1, o1e, e9, fa_lit, nI_ltI, nI_leI, nI_eq, nI_add, pk_mul, nI_clamp, vp_in_nI, l_uk, l_n1, l_n1e, l_n1e2, l_n1l, l_n1l2, l_n1l3, not_true_eq_false, not_false_eq_true, true_implies, false_implies, true_and, and_true, and_self, forall_eq, bI_t, bI_f, Bool.false_eq_true, or_true, true_or, or_false, false_or, s1_ltx, if_true, if_false, Nat.add_zero, Nat.zero_add,  d_leF, d_leT, d_ltF, d_ltT, d_eqF, d_eqT]
    refine m_markAgain hP hw hC0 (fun I2 hF2 hG2 => ?_)
    refine m_giveBag_80 (both := true) (tk := false) (G := fun k => mkB (A ++ B) k k) ((FM.one (n := n) hF2).pm hP) hw hn ha hb (hC0.one hF2) hk4 rfl rfl (fun i hi => hG2 i hi) (hR.one hF2) (fun I3 hF hH => ?_)
    refine h I3 ((FM.one hF2).tr hF) ?_
    rw [ddN_kp, ← ddN_app] at hH
    exact hH
