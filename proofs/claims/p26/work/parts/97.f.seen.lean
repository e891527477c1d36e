/-! pure: what the class has settled -/
abbrev Et : Type := Nat × List Nat × Int32
def se (E : List Et) (k : Nat) : Et := E.getD k (0, [], 0)
theorem se_l {E : List Et} {R : List Et} {k : Nat} (h : k < E.length) : se (E ++ R) k = se E k := by
  unfold se
  rw [List.getD_eq_getElem?_getD, List.getElem?_append_left h, ← List.getD_eq_getElem?_getD]
theorem se_e {E : List Et} {x : Et} {R : List Et} : se (E ++ x :: R) E.length = x := by
  unfold se
  rw [List.getD_eq_getElem?_getD, List.getElem?_append_right (Nat.le_refl _), Nat.sub_self]
  rfl
theorem se_r {E : List Et} {x : Et} {R : List Et} {k : Nat} (h : E.length < k) : se (E ++ x :: R) k = se R (k - E.length - 1) := by
  unfold se
  rw [List.getD_eq_getElem?_getD, List.getElem?_append_right (by omega), ← List.getD_eq_getElem?_getD]
  obtain ⟨j, hj⟩ : ∃ j, k - E.length = j + 1 := ⟨k - E.length - 1, by omega⟩
  rw [hj]
  rfl
theorem se_m {E : List Et} {k : Nat} (h : k < E.length) : se E k ∈ E := by
  unfold se
  rw [List.getD_eq_getElem?_getD, List.getElem?_eq_getElem h]
  exact List.getElem_mem h
def eOk (x : Et) : Prop := x.1 < 24 ∧ x.2.1.length ≤ 23 ∧ okL 6 x.2.1
def Sn (I : QI) (E : List Et) : Prop := I 30 7 = nI E.length ∧ E.length ≤ 256 ∧ ∀ k, k < E.length → I 33 k = nI (se E k).1 ∧ I 34 k = nI (se E k).2.1.length ∧ (∀ i, i < (se E k).2.1.length → I 35 (k * 24 + i) = nI (cc (gN (se E k).2.1 i))) ∧ I 36 k = (se E k).2.2
theorem Sn.fr {I I2 : QI} {E : List Et} (h : Sn I E) (hF : ∀ b, 30 ≤ b → b ≤ 36 → b ≠ 31 → b ≠ 32 → I2 b = I b) : Sn I2 E := by
  refine ⟨by rw [hF 30 (by omega) (by omega) (by omega) (by omega)]; exact h.1, h.2.1, fun k hk => ?_⟩
  rw [hF 33 (by omega) (by omega) (by omega) (by omega), hF 34 (by omega) (by omega) (by omega) (by omega), hF 35 (by omega) (by omega) (by omega) (by omega), hF 36 (by omega) (by omega) (by omega) (by omega)]
  exact h.2.2 k hk
section SN
variable {I : QI} {E : List Et} {lev n : Nat} {L : List Nat}
theorem p_isSeenAt {k : Nat} {post : Int32 → Prop} (hS : Sn I E) (hE : ∀ x, x ∈ E → eOk x) (hk : k < E.length) (hR : Lv I lev L) (hl : lev < 25) (hL : L.length ≤ 23) (hok : okL 6 L) (h : post (bI (decide ((se E k).2.1 = L)))) : wX3_isSeenAt (nI k) (nI lev) I post := by
  have h256 := hS.2.1
  obtain ⟨q1, q2, q3, q4⟩ := hS.2.2 k hk
  obtain ⟨o1', o2', o3'⟩ := hE _ (se_m hk)
  unfold wX3_isSeenAt
  simp (disch := omega) only [fa_lit, nI_ltI, nI_leI, nI_eq, nI_add, pk_mul, nI_clamp, vp_in_nI, l_uk, l_n1, l_n1e, l_n1e2, l_n1l, l_n1l2, l_n1l3, not_true_eq_false, not_false_eq_true, true_implies, false_implies, true_and, and_true, and_self, forall_eq, bI_t, bI_f, Bool.false_eq_true, or_true, true_or, or_false, false_or, s1_ltx, if_true, if_false, Nat.add_zero, Nat.zero_add,  d_leF, d_leT, d_ltF, d_ltT, d_eqF, d_eqT]
  refine p_lengthOf hR hl ?_
  rw [q2]
  simp (disch := omega) only [fa_lit, nI_ltI, nI_leI, nI_eq, nI_add, pk_mul, nI_clamp, vp_in_nI, l_uk, l_n1, l_n1e, l_n1e2, l_n1l, l_n1l2, l_n1l3, not_true_eq_false, not_false_eq_true, true_implies, false_implies, true_and, and_true, and_self, forall_eq, bI_t, bI_f, Bool.false_eq_true, or_true, true_or, or_false, false_or, s1_ltx, if_true, if_false, Nat.add_zero, Nat.zero_add,  d_leF, d_leT, d_ltF, d_ltT, d_eqF, d_eqT]
  refine ⟨fun e => ?_, fun e => ?_⟩
  · refine lp (fun f i (_ : Unit) => wX3_isSeenAt_29 (nI k) (nI lev) I post f (nI i)) (fun i _ => ∀ j, j < i → gN (se E k).2.1 j = gN L j) L.length ?_ ?_ 0 () (Nat.zero_le _) (fun c hc => absurd hc (Nat.not_lt_zero c))
    · intro f _ hI
      rw [decide_eq_true (gN_ext e (fun i hi => hI i (by omega)))] at h
      show wX3_isSeenAt_29 _ _ _ _ _ _
      rw [wX3_isSeenAt_29]
      refine p_lengthOf hR hl ?_
      simp (disch := omega) only [fa_lit, nI_ltI, nI_leI, nI_eq, nI_add, pk_mul, nI_clamp, vp_in_nI, l_uk, l_n1, l_n1e, l_n1e2, l_n1l, l_n1l2, l_n1l3, not_true_eq_false, not_false_eq_true, true_implies, false_implies, true_and, and_true, and_self, forall_eq, bI_t, bI_f, Bool.false_eq_true, or_true, true_or, or_false, false_or, s1_ltx, if_true, if_false, Nat.add_zero, Nat.zero_add,  d_leF, d_leT, d_ltF, d_ltT, d_eqF, d_eqT]
      exact h
    · intro f i _ hi hI hkk
      obtain ⟨x1, x2⟩ := hok _ (gN_m hi)
      obtain ⟨y1, y2⟩ := o3' _ (gN_m (show i < (se E k).2.1.length by omega))
      have cx := cc_b x1
      have cy := cc_b y1
      show wX3_isSeenAt_29 _ _ _ _ _ _
      rw [wX3_isSeenAt_29]
      refine p_lengthOf hR hl ?_
      simp (disch := omega) only [fa_lit, nI_ltI, nI_leI, nI_eq, nI_add, pk_mul, nI_clamp, vp_in_nI, l_uk, l_n1, l_n1e, l_n1e2, l_n1l, l_n1l2, l_n1l3, not_true_eq_false, not_false_eq_true, true_implies, false_implies, true_and, and_true, and_self, forall_eq, bI_t, bI_f, Bool.false_eq_true, or_true, true_or, or_false, false_or, s1_ltx, if_true, if_false, Nat.add_zero, Nat.zero_add,  d_leF, d_leT, d_ltF, d_ltT, d_eqF, d_eqT]
      refine p_codeAt hR hl (by omega) hi ?_
      rw [q3 i (by omega)]
      simp (disch := omega) only [fa_lit, nI_ltI, nI_leI, nI_eq, nI_add, pk_mul, nI_clamp, vp_in_nI, l_uk, l_n1, l_n1e, l_n1e2, l_n1l, l_n1l2, l_n1l3, not_true_eq_false, not_false_eq_true, true_implies, false_implies, true_and, and_true, and_self, forall_eq, bI_t, bI_f, Bool.false_eq_true, or_true, true_or, or_false, false_or, s1_ltx, if_true, if_false, Nat.add_zero, Nat.zero_add,  d_leF, d_leT, d_ltF, d_ltT, d_eqF, d_eqT]
      refine ⟨fun e2 => hkk () (fun j hj => ?_), fun e2 => ?_⟩
      · by_cases e3 : j = i
        · subst e3
          exact cc_inj y2 x2 e2
        · exact hI j (by omega)
      · rw [decide_eq_false (fun z => e2 (by rw [z]))] at h
        exact h
  · rw [decide_eq_false (fun z => e (by rw [z]))] at h
    exact h
theorem p_sfind {post : Int32 → Prop} (hS : Sn I E) (hE : ∀ x, x ∈ E → eOk x) (hn : n < 24) (hR : Lv I lev L) (hl : lev < 25) (hL : L.length ≤ 23) (hok : okL 6 L) (h1 : ∀ k, k < E.length → (se E k).1 = n → (se E k).2.1 = L → post (nI k)) (h2 : post N1) : wX3_find (nI n) (nI lev) I post := by
  have h256 := hS.2.1
  unfold wX3_find
  refine lp (fun f i (_ : Unit) => wX3_find_2 (nI n) (nI lev) I post f (nI i)) (fun _ _ => True) E.length ?_ ?_ 0 () (Nat.zero_le _) trivial
  · intro f _ _
    show wX3_find_2 _ _ _ _ _ _
    rw [wX3_find_2]
    simp (disch := omega) only [hS.1, fa_lit, nI_ltI, nI_leI, nI_eq, nI_add, pk_mul, nI_clamp, vp_in_nI, l_uk, l_n1, l_n1e, l_n1e2, l_n1l, l_n1l2, l_n1l3, not_true_eq_false, not_false_eq_true, true_implies, false_implies, true_and, and_true, and_self, forall_eq, bI_t, bI_f, Bool.false_eq_true, or_true, true_or, or_false, false_or, s1_ltx, if_true, if_false, Nat.add_zero, Nat.zero_add,  d_leF, d_leT, d_ltF, d_ltT, d_eqF, d_eqT]
    exact h2
  · intro f i _ hi _ hkk
    obtain ⟨q1, q2, q3, q4⟩ := hS.2.2 i hi
    have o9 := (hE _ (se_m hi)).1
    show wX3_find_2 _ _ _ _ _ _
    rw [wX3_find_2]
    simp (disch := omega) only [hS.1, q1, fa_lit, nI_ltI, nI_leI, nI_eq, nI_add, pk_mul, nI_clamp, vp_in_nI, l_uk, l_n1, l_n1e, l_n1e2, l_n1l, l_n1l2, l_n1l3, not_true_eq_false, not_false_eq_true, true_implies, false_implies, true_and, and_true, and_self, forall_eq, bI_t, bI_f, Bool.false_eq_true, or_true, true_or, or_false, false_or, s1_ltx, if_true, if_false, Nat.add_zero, Nat.zero_add,  d_leF, d_leT, d_ltF, d_ltT, d_eqF, d_eqT]
    refine ⟨fun _ => hkk () trivial, fun e => ?_⟩
    refine p_isSeenAt hS hE hi hR hl hL hok ?_
    by_cases e2 : (se E i).2.1 = L
    · rw [decide_eq_true e2]
      simp (disch := omega) only [fa_lit, nI_ltI, nI_leI, nI_eq, nI_add, pk_mul, nI_clamp, vp_in_nI, l_uk, l_n1, l_n1e, l_n1e2, l_n1l, l_n1l2, l_n1l3, not_true_eq_false, not_false_eq_true, true_implies, false_implies, true_and, and_true, and_self, forall_eq, bI_t, bI_f, Bool.false_eq_true, or_true, true_or, or_false, false_or, s1_ltx, if_true, if_false, Nat.add_zero, Nat.zero_add,  d_leF, d_leT, d_ltF, d_ltT, d_eqF, d_eqT]
      exact h1 i hi e e2
    · rw [decide_eq_false e2]
      simp (disch := omega) only [fa_lit, nI_ltI, nI_leI, nI_eq, nI_add, pk_mul, nI_clamp, vp_in_nI, l_uk, l_n1, l_n1e, l_n1e2, l_n1l, l_n1l2, l_n1l3, not_true_eq_false, not_false_eq_true, true_implies, false_implies, true_and, and_true, and_self, forall_eq, bI_t, bI_f, Bool.false_eq_true, or_true, true_or, or_false, false_or, s1_ltx, if_true, if_false, Nat.add_zero, Nat.zero_add,  d_leF, d_leT, d_ltF, d_ltT, d_eqF, d_eqT]
      exact hkk () trivial
theorem p_remember {post : Int32 → QI → Prop} (hS : Sn I E) (hE : ∀ x, x ∈ E → eOk x) (h256 : E.length < 256) (hn : n < 24) (hR : Lv I lev L) (hl : lev < 25) (hL : L.length ≤ 23) (h : ∀ I2, (∀ b, b < 30 ∨ b = 31 ∨ b = 32 ∨ 37 ≤ b → I2 b = I b) → Sn I2 (E ++ [(n, L, N1)]) → post (nI E.length) I2) : wX3_remember (nI n) (nI lev) I post := by
  unfold wX3_remember
  simp (disch := omega) only [hS.1, q_u2_s, ne_u2, nr_u2, fa_lit, nI_ltI, nI_leI, nI_eq, nI_add, pk_mul, nI_clamp, vp_in_nI, l_uk, l_n1, l_n1e, l_n1e2, l_n1l, l_n1l2, l_n1l3, not_true_eq_false, not_false_eq_true, true_implies, false_implies, true_and, and_true, and_self, forall_eq, bI_t, bI_f, Bool.false_eq_true, or_true, true_or, or_false, false_or, s1_ltx, if_true, if_false, Nat.add_zero, Nat.zero_add,  d_leF, d_leT, d_ltF, d_ltT, d_eqF, d_eqT]
  have hR1 : Lv (q_u2 I 33 E.length (nI n)) lev L := ⟨by rw [nr_u2 (by omega)]; exact hR.1, fun i hi => by rw [nr_u2 (by omega)]; exact hR.2 i hi⟩
  refine p_lengthOf hR1 hl ?_
  refine lp (fun f i (I2 : QI) => wX3_remember_48 (nI n) (nI lev) (fun I9 => post ((I9 30 7 + nI 1) - nI 1) (q_u2 I9 30 7 (I9 30 7 + nI 1))) post f (nI i) I2) (fun i I2 => (∀ b, b ≠ 35 → I2 b = q_u2 (q_u2 (q_u2 I 33 E.length (nI n)) 34 E.length (nI L.length)) 36 E.length N1 b) ∧ (∀ j, j < E.length * 24 → I2 35 j = I 35 j) ∧ ∀ j, j < i → I2 35 (E.length * 24 + j) = nI (cc (gN L j))) L.length ?_ ?_ 0 _ (Nat.zero_le _) ⟨fun _ _ => rfl, fun j _ => by rw [nr_u2 (by omega), nr_u2 (by omega), nr_u2 (by omega)], fun c hc => absurd hc (Nat.not_lt_zero c)⟩
  · rintro f I2 ⟨hF, ho, hc⟩
    have hF9 : ∀ b, b ≠ 33 → b ≠ 34 → b ≠ 35 → b ≠ 36 → I2 b = I b := fun b h1 h2 h3 h4 => by rw [hF b h3, nr_u2 h4, nr_u2 h2, nr_u2 h1]
    have hR2 : Lv I2 lev L := ⟨by rw [hF9 32 (by omega) (by omega) (by omega) (by omega)]; exact hR.1, fun i hi => by rw [hF9 31 (by omega) (by omega) (by omega) (by omega)]; exact hR.2 i hi⟩
    have e30 : I2 30 7 = nI E.length := by rw [hF9 30 (by omega) (by omega) (by omega) (by omega)]; exact hS.1
    show wX3_remember_48 _ _ _ _ _ _ _
    rw [wX3_remember_48]
    refine p_lengthOf hR2 hl ?_
    simp (disch := omega) only [e30, pk_sub, fa_lit, nI_ltI, nI_leI, nI_eq, nI_add, pk_mul, nI_clamp, vp_in_nI, l_uk, l_n1, l_n1e, l_n1e2, l_n1l, l_n1l2, l_n1l3, not_true_eq_false, not_false_eq_true, true_implies, false_implies, true_and, and_true, and_self, forall_eq, bI_t, bI_f, Bool.false_eq_true, or_true, true_or, or_false, false_or, s1_ltx, if_true, if_false, Nat.add_zero, Nat.zero_add,  d_leF, d_leT, d_ltF, d_ltT, d_eqF, d_eqT]
    rw [show E.length + 1 - 1 = E.length by omega]
    refine h _ (fun b hb => ?_) ⟨?_, ?_, fun k hk => ?_⟩
    · rw [nr_u2 (by omega)]
      exact hF9 b (by omega) (by omega) (by omega) (by omega)
    · rw [List.length_append]
      exact q_u2_s _ _ _ _
    · rw [List.length_append]
      exact h256
    · rw [List.length_append] at hk
      have hk2 : k < E.length + 1 := hk
      simp (disch := omega) only [nr_u2]
      by_cases e : k = E.length
      · subst e
        rw [se_e]
        refine ⟨?_, ?_, fun i hi => hc i hi, ?_⟩
        · rw [hF 33 (by omega), nr_u2 (by omega), nr_u2 (by omega)]
          exact q_u2_s _ _ _ _
        · rw [hF 34 (by omega), nr_u2 (by omega)]
          exact q_u2_s _ _ _ _
        · rw [hF 36 (by omega)]
          exact q_u2_s _ _ _ _
      · rw [se_l (by omega)]
        obtain ⟨q1, q2, q3, q4⟩ := hS.2.2 k (by omega)
        refine ⟨?_, ?_, fun i hi => ?_, ?_⟩
        · rw [hF 33 (by omega), nr_u2 (by omega), nr_u2 (by omega), q_u2_j _ _ _ e]
          exact q1
        · rw [hF 34 (by omega), nr_u2 (by omega), q_u2_j _ _ _ e, nr_u2 (by omega)]
          exact q2
        · have o9 := (hE _ (se_m (show k < E.length by omega))).2.1
          rw [ho _ (by omega)]
          exact q3 i hi
        · rw [hF 36 (by omega), q_u2_j _ _ _ e, nr_u2 (by omega), nr_u2 (by omega)]
          exact q4
  · rintro f i I2 hi ⟨hF, ho, hc⟩ hk
    have hF9 : ∀ b, b ≠ 33 → b ≠ 34 → b ≠ 35 → b ≠ 36 → I2 b = I b := fun b h1 h2 h3 h4 => by rw [hF b h3, nr_u2 h4, nr_u2 h2, nr_u2 h1]
    have hR2 : Lv I2 lev L := ⟨by rw [hF9 32 (by omega) (by omega) (by omega) (by omega)]; exact hR.1, fun i hi => by rw [hF9 31 (by omega) (by omega) (by omega) (by omega)]; exact hR.2 i hi⟩
    have e30 : I2 30 7 = nI E.length := by rw [hF9 30 (by omega) (by omega) (by omega) (by omega)]; exact hS.1
    show wX3_remember_48 _ _ _ _ _ _ _
    rw [wX3_remember_48]
    refine p_lengthOf hR2 hl ?_
    simp (disch := omega) only [fa_lit, nI_ltI, nI_leI, nI_eq, nI_add, pk_mul, nI_clamp, vp_in_nI, l_uk, l_n1, l_n1e, l_n1e2, l_n1l, l_n1l2, l_n1l3, not_true_eq_false, not_false_eq_true, true_implies, false_implies, true_and, and_true, and_self, forall_eq, bI_t, bI_f, Bool.false_eq_true, or_true, true_or, or_false, false_or, s1_ltx, if_true, if_false, Nat.add_zero, Nat.zero_add,  d_leF, d_leT, d_ltF, d_ltT, d_eqF, d_eqT]
    refine p_codeAt hR2 hl (by omega) hi ?_
    simp (disch := omega) only [e30, fa_lit, nI_ltI, nI_leI, nI_eq, nI_add, pk_mul, nI_clamp, vp_in_nI, l_uk, l_n1, l_n1e, l_n1e2, l_n1l, l_n1l2, l_n1l3, not_true_eq_false, not_false_eq_true, true_implies, false_implies, true_and, and_true, and_self, forall_eq, bI_t, bI_f, Bool.false_eq_true, or_true, true_or, or_false, false_or, s1_ltx, if_true, if_false, Nat.add_zero, Nat.zero_add,  d_leF, d_leT, d_ltF, d_ltT, d_eqF, d_eqT]
    refine hk _ ⟨fun b hb => by rw [nr_u2 hb]; exact hF b hb, fun j hj => by rw [q_u2_j _ _ _ (by omega)]; exact ho j hj, fun j hj => ?_⟩
    by_cases e : j = i
    · subst e
      exact q_u2_s _ _ _ _
    · rw [q_u2_j _ _ _ (by omega)]
      exact hc j (by omega)
/-- a result put in -/
theorem Sn.res {n : Nat} {r : Int32} {R : List Et} (h : Sn I (E ++ (n, L, N1) :: R)) : Sn (q_u2 I 36 E.length r) (E ++ (n, L, r) :: R) := by
  have hl : (E ++ (n, L, r) :: R).length = (E ++ (n, L, N1) :: R).length := by rw [List.length_append, List.length_append, List.length_cons, List.length_cons]
  refine ⟨by rw [nr_u2 (by omega), hl]; exact h.1, by rw [hl]; exact h.2.1, fun k hk => ?_⟩
  rw [hl] at hk
  obtain ⟨q1, q2, q3, q4⟩ := h.2.2 k hk
  have e3 : se (E ++ (n, L, r) :: R) k = if k = E.length then (n, L, r) else se (E ++ (n, L, N1) :: R) k := by
    rcases Nat.lt_trichotomy k E.length with e | e | e
    · rw [if_neg (by omega), se_l e, se_l e]
    · rw [if_pos e, e, se_e]
    · rw [if_neg (by omega), se_r e, se_r e]
  rw [e3]
  by_cases e : k = E.length
  · subst e
    rw [se_e] at q1 q2 q3
    rw [if_pos rfl]
    exact ⟨by rw [nr_u2 (by omega)]; exact q1, by rw [nr_u2 (by omega)]; exact q2, fun i hi => by rw [nr_u2 (by omega)]; exact q3 i hi, q_u2_s _ _ _ _⟩
  · rw [if_neg e]
    exact ⟨by rw [nr_u2 (by omega)]; exact q1, by rw [nr_u2 (by omega)]; exact q2, fun i hi => by rw [nr_u2 (by omega)]; exact q3 i hi, by rw [q_u2_j _ _ _ e]; exact q4⟩
end SN
