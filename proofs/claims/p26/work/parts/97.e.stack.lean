/-! pure: the class stacks what does not move -/
theorem ins_comm (a b : Nat) : ∀ l : List Nat, ins a (ins b l) = ins b (ins a l)
  | [] => by
    rcases Nat.lt_trichotomy a b with h | h | h
    · have h2 : ¬ b < a := by omega
      simp only [ins, h, h2, if_true, if_false]
    · subst h; rfl
    · have h2 : ¬ a < b := by omega
      simp only [ins, h, h2, if_true, if_false]
  | x :: xs => by
    have ih := ins_comm a b xs
    rcases Nat.lt_trichotomy a b with h | h | h
    · have h2 : ¬ b < a := by omega
      by_cases h3 : x < a
      · have h4 : x < b := by omega
        simp only [ins, h, h2, h3, h4, if_true, if_false]
      · by_cases h4 : x < b
        · simp only [ins, h2, h3, h4, if_true, if_false]
        · simp only [ins, h3, h4, if_false, ih]
    · subst h; rfl
    · have h2 : ¬ a < b := by omega
      by_cases h3 : x < b
      · have h4 : x < a := by omega
        simp only [ins, h, h2, h3, h4, if_true, if_false]
      · by_cases h4 : x < a
        · simp only [ins, h2, h3, h4, if_true, if_false]
        · simp only [ins, h3, h4, if_false, ih]
theorem dsc_snoc (y : Nat) : ∀ l : List Nat, dsc (l ++ [y]) = ins y (dsc l)
  | [] => rfl
  | a :: l => by
    show ins a (dsc (l ++ [y])) = ins y (ins a (dsc l))
    rw [dsc_snoc y l, ins_comm]
theorem ins_max {e : Nat} : ∀ {l : List Nat}, (∀ x, x ∈ l → x ≤ e) → ins e l = e :: l
  | [], _ => rfl
  | x :: xs, h => by
    have hx := h x List.mem_cons_self
    rw [ins]
    by_cases e2 : x < e
    · rw [if_pos e2]
    · have e3 : x = e := by omega
      rw [if_neg e2, ins_max (fun y hy => h y (List.mem_cons_of_mem _ hy)), e3]
def bgk (x : Nat) (ys : List Nat) : Nat → Nat × List Nat
  | 0 => (x, [])
  | k + 1 => if (bgk x ys k).1 < gN ys k then (gN ys k, (bgk x ys k).2 ++ [(bgk x ys k).1]) else ((bgk x ys k).1, (bgk x ys k).2 ++ [gN ys k])
theorem bgk_l (x : Nat) (ys : List Nat) : ∀ k, (bgk x ys k).2.length = k
  | 0 => rfl
  | k + 1 => by
    have := bgk_l x ys k
    rw [bgk]
    split
    · show ((bgk x ys k).2 ++ [_]).length = _
      rw [List.length_append, this]
      rfl
    · show ((bgk x ys k).2 ++ [_]).length = _
      rw [List.length_append, this]
      rfl
theorem bgk_m (x : Nat) (ys : List Nat) : ∀ k, k ≤ ys.length → ∀ e, e ∈ (bgk x ys k).1 :: (bgk x ys k).2 → e ∈ x :: ys
  | 0, _, e, h => by
    have h2 : e ∈ [x] := h
    rw [List.mem_singleton.mp h2]
    exact List.mem_cons_self
  | k + 1, hk, e, h => by
    have ih := bgk_m x ys k (by omega)
    have hg : gN ys k ∈ x :: ys := List.mem_cons_of_mem _ (gN_m (by omega))
    rw [bgk] at h
    split at h
    · rcases List.mem_cons.mp h with z | z
      · rw [z]; exact hg
      · rcases List.mem_append.mp z with z | z
        · exact ih e (List.mem_cons_of_mem _ z)
        · rw [List.mem_singleton.mp z]; exact ih _ List.mem_cons_self
    · rcases List.mem_cons.mp h with z | z
      · rw [z]; exact ih _ List.mem_cons_self
      · rcases List.mem_append.mp z with z | z
        · exact ih e (List.mem_cons_of_mem _ z)
        · rw [List.mem_singleton.mp z]; exact hg
theorem bgk_d (x : Nat) (ys : List Nat) : ∀ k, k ≤ ys.length → dsc (x :: ys.take k) = (bgk x ys k).1 :: dsc (bgk x ys k).2 ∧ ∀ z, z ∈ (bgk x ys k).2 → z ≤ (bgk x ys k).1
  | 0, _ => ⟨by rw [List.take_zero]; rfl, fun z hz => by cases hz⟩
  | k + 1, hk => by
    obtain ⟨h1, h2⟩ := bgk_d x ys k (by omega)
    rw [gN_t (by omega), ← List.cons_append, dsc_snoc, h1, bgk]
    by_cases e : (bgk x ys k).1 < gN ys k
    · rw [if_pos e]
      refine ⟨?_, fun z hz => ?_⟩
      · show ins (gN ys k) ((bgk x ys k).1 :: dsc (bgk x ys k).2) = gN ys k :: dsc ((bgk x ys k).2 ++ [(bgk x ys k).1])
        rw [dsc_snoc, ins_max (e := (bgk x ys k).1) (fun z hz => h2 z (dsc_mem.mp hz)), ins, if_pos e]
      · show z ≤ gN ys k
        rcases List.mem_append.mp hz with z2 | z2
        · have := h2 z z2
          omega
        · rw [List.mem_singleton.mp z2]
          omega
    · rw [if_neg e]
      refine ⟨?_, fun z hz => ?_⟩
      · show ins (gN ys k) ((bgk x ys k).1 :: dsc (bgk x ys k).2) = (bgk x ys k).1 :: dsc ((bgk x ys k).2 ++ [gN ys k])
        rw [dsc_snoc, ins, if_neg e]
      · show z ≤ (bgk x ys k).1
        rcases List.mem_append.mp hz with z2 | z2
        · exact h2 z z2
        · rw [List.mem_singleton.mp z2]
          omega
theorem set_mid : ∀ (A : List Nat) (y v : Nat) (r : List Nat), (A ++ y :: r).set A.length v = A ++ v :: r
  | [], y, v, r => rfl
  | a :: A, y, v, r => by
    show a :: (A ++ y :: r).set A.length v = a :: (A ++ v :: r)
    rw [set_mid A]
theorem gN_mid (A : List Nat) (y : Nat) (r : List Nat) : gN (A ++ y :: r) A.length = y := by
  rw [gN_r (Nat.le_refl _), Nat.sub_self]
  rfl
section ST
variable {I : QI} {T : QT} {P : List Nd} {lev : Nat}
theorem p_bringGreatest {A ys : List Nat} {x : Nat} {post : QI → Prop} (hR : Lv I lev (A ++ x :: ys)) (hl : lev < 25) (hM : (A ++ x :: ys).length ≤ 24) (ok : okL 6 (x :: ys)) (k : ∀ I2, F1 lev I I2 → Lv I2 lev (A ++ (bgk x ys ys.length).1 :: (bgk x ys ys.length).2) → post I2) : wX3_bringGreatest (nI lev) (nI A.length) I post := by
  have hlen : A.length + ys.length + 1 ≤ 24 := by rw [List.length_append] at hM; exact hM
  unfold wX3_bringGreatest
  simp (disch := omega) only [fa_lit, nI_ltI, nI_leI, nI_eq, nI_add, pk_mul, nI_clamp, vp_in_nI, l_uk, l_n1, l_n1e, l_n1e2, l_n1l, l_n1l2, l_n1l3, not_true_eq_false, not_false_eq_true, true_implies, false_implies, true_and, and_true, and_self, forall_eq, bI_t, bI_f, Bool.false_eq_true, or_true, true_or, or_false, false_or, s1_ltx, if_true, if_false, Nat.add_zero, Nat.zero_add,  d_leF, d_leT, d_ltF, d_ltT, d_eqF, d_eqT]
  suffices hh : ∃ f, wX3_bringGreatest_4 (nI lev) (nI A.length) post f (nI (A.length + 1 + 0)) I from hh
  refine lp (fun f j (I2 : QI) => wX3_bringGreatest_4 (nI lev) (nI A.length) post f (nI (A.length + 1 + j)) I2) (fun j I2 => F1 lev I I2 ∧ Lv I2 lev (A ++ (bgk x ys j).1 :: ((bgk x ys j).2 ++ ys.drop j))) ys.length ?_ ?_ 0 I (Nat.zero_le _) ⟨F1.rf _ _, hR⟩
  · rintro f I2 ⟨hF, hR2⟩
    have lz := bgk_l x ys ys.length
    rw [List.drop_length, List.append_nil] at hR2
    have hlr : (A ++ (bgk x ys ys.length).1 :: (bgk x ys ys.length).2).length = A.length + 1 + ys.length := by rw [List.length_append, List.length_cons, lz]; omega
    show wX3_bringGreatest_4 _ _ _ _ _ _
    rw [wX3_bringGreatest_4]
    refine p_lengthOf hR2 hl ?_
    rw [hlr]
    simp (disch := omega) only [fa_lit, nI_ltI, nI_leI, nI_eq, nI_add, pk_mul, nI_clamp, vp_in_nI, l_uk, l_n1, l_n1e, l_n1e2, l_n1l, l_n1l2, l_n1l3, not_true_eq_false, not_false_eq_true, true_implies, false_implies, true_and, and_true, and_self, forall_eq, bI_t, bI_f, Bool.false_eq_true, or_true, true_or, or_false, false_or, s1_ltx, if_true, if_false, Nat.add_zero, Nat.zero_add,  d_leF, d_leT, d_ltF, d_ltT, d_eqF, d_eqT]
    exact k I2 hF hR2
  · rintro f j I2 hj ⟨hF, hR2⟩ hk
    have lz := bgk_l x ys j
    have hd := gN_d hj
    rw [hd] at hR2
    have hlr : (A ++ (bgk x ys j).1 :: ((bgk x ys j).2 ++ gN ys j :: ys.drop (j + 1))).length = A.length + 1 + ys.length := by rw [List.length_append, List.length_cons, List.length_append, List.length_cons, List.length_drop, lz]; omega
    have e1 : gN (A ++ (bgk x ys j).1 :: ((bgk x ys j).2 ++ gN ys j :: ys.drop (j + 1))) A.length = (bgk x ys j).1 := gN_mid _ _ _
    have ea : A ++ (bgk x ys j).1 :: ((bgk x ys j).2 ++ gN ys j :: ys.drop (j + 1)) = (A ++ (bgk x ys j).1 :: (bgk x ys j).2) ++ gN ys j :: ys.drop (j + 1) := by rw [List.append_assoc, List.cons_append]
    have el : (A ++ (bgk x ys j).1 :: (bgk x ys j).2).length = A.length + 1 + j := by rw [List.length_append, List.length_cons, lz]; omega
    have e2 : gN (A ++ (bgk x ys j).1 :: ((bgk x ys j).2 ++ gN ys j :: ys.drop (j + 1))) (A.length + 1 + j) = gN ys j := by rw [ea, ← el]; exact gN_mid _ _ _
    have mx : (bgk x ys j).1 ∈ x :: ys := bgk_m x ys j (by omega) _ List.mem_cons_self
    have my : gN ys j ∈ x :: ys := List.mem_cons_of_mem _ (gN_m hj)
    obtain ⟨x1, x2⟩ := ok _ mx
    obtain ⟨y1, y2⟩ := ok _ my
    have cx := cc_b x1
    have cy := cc_b y1
    have cl := cc_lt x2 y2
    show wX3_bringGreatest_4 _ _ _ _ _ _
    rw [wX3_bringGreatest_4]
    refine p_lengthOf hR2 hl ?_
    rw [hlr]
    simp (disch := omega) only [fa_lit, nI_ltI, nI_leI, nI_eq, nI_add, pk_mul, nI_clamp, vp_in_nI, l_uk, l_n1, l_n1e, l_n1e2, l_n1l, l_n1l2, l_n1l3, not_true_eq_false, not_false_eq_true, true_implies, false_implies, true_and, and_true, and_self, forall_eq, bI_t, bI_f, Bool.false_eq_true, or_true, true_or, or_false, false_or, s1_ltx, if_true, if_false, Nat.add_zero, Nat.zero_add,  d_leF, d_leT, d_ltF, d_ltT, d_eqF, d_eqT]
    refine p_codeAt hR2 hl (by omega) (by omega) (p_codeAt hR2 hl (by omega) (by omega) ?_)
    rw [e1, e2]
    by_cases e : (bgk x ys j).1 < gN ys j
    · have := cl.mpr e
      simp (disch := omega) only [fa_lit, nI_ltI, nI_leI, nI_eq, nI_add, pk_mul, nI_clamp, vp_in_nI, l_uk, l_n1, l_n1e, l_n1e2, l_n1l, l_n1l2, l_n1l3, not_true_eq_false, not_false_eq_true, true_implies, false_implies, true_and, and_true, and_self, forall_eq, bI_t, bI_f, Bool.false_eq_true, or_true, true_or, or_false, false_or, s1_ltx, if_true, if_false, Nat.add_zero, Nat.zero_add,  d_leF, d_leT, d_ltF, d_ltT, d_eqF, d_eqT]
      refine p_codeAt hR2 hl (by omega) (by omega) ?_
      rw [e1]
      refine p_setCode hR2 hl (by omega) (by omega) (fun I3 hF3 hR3 => ?_)
      rw [ea, ← el, set_mid, List.append_assoc, List.cons_append] at hR3
      refine p_setCode hR3 hl (by rw [List.length_append, List.length_cons, List.length_append, List.length_cons, List.length_drop, lz]; omega) (by rw [List.length_append, List.length_cons]; omega) (fun I4 hF4 hR4 => ?_)
      rw [set_mid] at hR4
      refine hk I4 ⟨(hF.tr hF3).tr hF4, ?_⟩
      rw [bgk, if_pos e]
      show Lv I4 lev (A ++ gN ys j :: (((bgk x ys j).2 ++ [(bgk x ys j).1]) ++ ys.drop (j + 1)))
      rw [List.append_assoc]
      exact hR4
    · have : ¬ cc (bgk x ys j).1 < cc (gN ys j) := fun z => e (cl.mp z)
      simp (disch := omega) only [fa_lit, nI_ltI, nI_leI, nI_eq, nI_add, pk_mul, nI_clamp, vp_in_nI, l_uk, l_n1, l_n1e, l_n1e2, l_n1l, l_n1l2, l_n1l3, not_true_eq_false, not_false_eq_true, true_implies, false_implies, true_and, and_true, and_self, forall_eq, bI_t, bI_f, Bool.false_eq_true, or_true, true_or, or_false, false_or, s1_ltx, if_true, if_false, Nat.add_zero, Nat.zero_add,  d_leF, d_leT, d_ltF, d_ltT, d_eqF, d_eqT]
      refine hk I2 ⟨hF, ?_⟩
      rw [bgk, if_neg e]
      show Lv I2 lev (A ++ (bgk x ys j).1 :: (((bgk x ys j).2 ++ [gN ys j]) ++ ys.drop (j + 1)))
      rw [List.append_assoc]
      exact hR2
theorem p_mk {q : Nd} {post : Int32 → QI → Prop} (hT : Tc I T) (hwT : Tw T) (hP : Pc I P) (hw : Pw T P) (hq : nW T P P.length q) (hs : ∀ i P1 I2, mk P q = some (i, P1) → Pc I2 P1 → (∀ b, b < 15 ∨ 23 ≤ b → I2 b = I b) → post (nI i) I2) (hn : mk P q = none → post N1 I) : wX2_make (nI q.1) (nI q.2.1) (sB q.2.2.1) (nI q.2.2.2.1) (nI q.2.2.2.2.1) q.2.2.2.2.2.1 I post := by
  refine p_make hT hwT hP hw hq (fun i hi e => hs i P I ?_ hP (fun _ _ => rfl)) (fun e e2 => hn ?_) (fun e e2 I2 hP2 hF => hs P.length _ I2 ?_ hP2 hF)
  · unfold mk; rw [e]
  · unfold mk; rw [e]; exact if_neg (by omega)
  · unfold mk; rw [e]; exact if_pos e2
/-- stacking: the plan, and a level's row -/
def FS (lev : Nat) (I I2 : QI) : Prop := (∀ b, b < 15 ∨ 23 ≤ b → b ≠ 31 → b ≠ 32 → I2 b = I b) ∧ (∀ j, j < lev * 24 → I2 31 j = I 31 j) ∧ ∀ j, j < lev → I2 32 j = I 32 j
theorem FS.rf (lev : Nat) (I : QI) : FS lev I I := ⟨fun _ _ _ _ => rfl, fun _ _ => rfl, fun _ _ => rfl⟩
theorem FS.tr {I2 I3 : QI} (h : FS lev I I2) (h2 : FS lev I2 I3) : FS lev I I3 := ⟨fun b h1 h3 h4 => (h2.1 b h1 h3 h4).trans (h.1 b h1 h3 h4), fun j hj => (h2.2.1 j hj).trans (h.2.1 j hj), fun j hj => (h2.2.2 j hj).trans (h.2.2 j hj)⟩
theorem F1.fs {I2 : QI} (h : F1 lev I I2) : FS lev I I2 := ⟨fun b _ h1 h2 => h.1 b h1 h2, fun j hj => h.2.1 j (Or.inl hj), fun j hj => h.2.2 j (by omega)⟩
theorem FS.pl {I2 : QI} (h : ∀ b, b < 15 ∨ 23 ≤ b → I2 b = I b) : FS lev I I2 := ⟨fun b hb _ _ => h b hb, fun j _ => by rw [h 31 (by omega)], fun j _ => by rw [h 32 (by omega)]⟩
theorem FS.gl {I2 : QI} (h : FS lev I I2) : GL lev I I2 := ⟨fun b hb => h.1 b (by omega) (by omega) (by omega), h.2⟩
theorem Lv.pl {I2 : QI} {M : List Nat} (hR : Lv I lev M) (h : ∀ b, b < 15 ∨ 23 ≤ b → I2 b = I b) : Lv I2 lev M := ⟨by rw [h 32 (by omega)]; exact hR.1, fun i hi => by rw [h 31 (by omega)]; exact hR.2 i hi⟩
theorem p_stack_n {M : List Nat} {fr : Nat} {post : Int32 → QI → Prop} (hR : Lv I lev M) (hl : lev < 25) (hM : M.length ≤ 24) (hfr : fr ≤ 24) (h : post N1 I) : wX3_stack N1 (nI lev) (nI fr) I post := by
  unfold wX3_stack
  refine ⟨1, ?_⟩
  rw [wX3_stack_6]
  refine p_lengthOf hR hl ?_
  exact ⟨fun _ => h, fun _ => ⟨fun _ => h, fun e => absurd rfl e⟩⟩
theorem p_stack {L : List Nat} {a fr w : Nat} {post : Int32 → QI → Prop} (hT : Tc I T) (hwT : Tw T) (hP : Pc I P) (hw : Pw T P) (hd : Pd P) (ha : a < P.length) (ew : (nd P a).2.2.2.2.2.2 = w) (hR : Lv I lev L) (hl : lev < 25) (hL : L.length ≤ 23) (hfr : fr ≤ L.length) (hok : okL w L) (hs : ∀ r P2 I2, chn w P a (dsc (L.drop fr)) = some (r, P2) → Pc I2 P2 → FS lev I I2 → post (nI r) I2) (hn : ∀ P2 I2, chn w P a (dsc (L.drop fr)) = none → XP P P2 → P2.length ≤ 24 → Pc I2 P2 → FS lev I I2 → post N1 I2) : wX3_stack (nI a) (nI lev) (nI fr) I post := by
  have w6 : w ≤ 6 := by rw [← ew]; exact (hw.2 a ha).1.2.2.2.2.2.2
  unfold wX3_stack
  refine lp (fun f i (s : Int32 × QI) => wX3_stack_6 (nI a) (nI lev) (nI fr) post f s.1 (nI i) s.2) (fun i s => FS lev I s.2 ∧ ∃ (Q : List Nd) (M : List Nat), M.length = L.length ∧ Lv s.2 lev M ∧ XP P Q ∧ Q.length ≤ 24 ∧ Pc s.2 Q ∧ ((s.1 = N1 ∧ chn w P a (dsc (L.drop fr)) = none) ∨ (∃ b, s.1 = nI b ∧ Pw T Q ∧ Pd Q ∧ b < Q.length ∧ (nd Q b).2.2.2.2.2.2 = w ∧ okL w (M.drop i) ∧ chn w P a (dsc (L.drop fr)) = chn w Q b (dsc (M.drop i))))) L.length ?_ ?_ fr (nI a, I) hfr ⟨FS.rf _ _, P, L, rfl, hR, XP.rf _, hw.1, hP, Or.inr ⟨a, rfl, hw, hd, ha, ew, okL_drop hok, rfl⟩⟩
  · rintro f ⟨m, I2⟩ ⟨hF, Q, M, lM, hR2, hX, hQ, hP2, hc⟩
    replace hF : FS lev I I2 := hF
    show wX3_stack_6 _ _ _ _ _ _ _ _
    rw [wX3_stack_6]
    refine p_lengthOf hR2 hl ?_
    rw [lM]
    simp (disch := omega) only [fa_lit, nI_ltI, nI_leI, nI_eq, nI_add, pk_mul, nI_clamp, vp_in_nI, l_uk, l_n1, l_n1e, l_n1e2, l_n1l, l_n1l2, l_n1l3, not_true_eq_false, not_false_eq_true, true_implies, false_implies, true_and, and_true, and_self, forall_eq, bI_t, bI_f, Bool.false_eq_true, or_true, true_or, or_false, false_or, s1_ltx, if_true, if_false, Nat.add_zero, Nat.zero_add,  d_leF, d_leT, d_ltF, d_ltT, d_eqF, d_eqT]
    rcases hc with ⟨e1, e2⟩ | ⟨b, e1, e2, e3, e4, e5, e6, e7⟩
    · have e1 : m = N1 := e1
      rw [e1]
      exact hn Q I2 e2 hX hQ hP2 hF
    · have e1 : m = nI b := e1
      rw [← lM, List.drop_length] at e7
      rw [e1]
      exact hs b Q I2 e7 hP2 hF
  · rintro f i ⟨m, I2⟩ hi ⟨hF, Q, M, lM, hR2, hX, hQ, hP2, hc⟩ hk
    replace hF : FS lev I I2 := hF
    show wX3_stack_6 _ _ _ _ _ _ _ _
    rw [wX3_stack_6]
    refine p_lengthOf hR2 hl ?_
    rw [lM]
    simp (disch := omega) only [fa_lit, nI_ltI, nI_leI, nI_eq, nI_add, pk_mul, nI_clamp, vp_in_nI, l_uk, l_n1, l_n1e, l_n1e2, l_n1l, l_n1l2, l_n1l3, not_true_eq_false, not_false_eq_true, true_implies, false_implies, true_and, and_true, and_self, forall_eq, bI_t, bI_f, Bool.false_eq_true, or_true, true_or, or_false, false_or, s1_ltx, if_true, if_false, Nat.add_zero, Nat.zero_add,  d_leF, d_leT, d_ltF, d_ltT, d_eqF, d_eqT]
    rcases hc with ⟨e1, e2⟩ | ⟨b, e1, e2, e3, e4, e5, e6, e7⟩
    · have e1 : m = N1 := e1
      rw [e1]
      exact ⟨fun _ => hn Q I2 e2 hX hQ hP2 hF, fun z => absurd rfl z⟩
    · have e1 : m = nI b := e1
      rw [e1]
      have hi2 : i < M.length := by omega
      have hA : M = M.take i ++ gN M i :: M.drop (i + 1) := by rw [← gN_d hi2, List.take_append_drop]
      have lA : (M.take i).length = i := by rw [List.length_take]; omega
      rw [gN_d hi2] at e6 e7
      have hb := e4
      simp (disch := omega) only [fa_lit, nI_ltI, nI_leI, nI_eq, nI_add, pk_mul, nI_clamp, vp_in_nI, l_uk, l_n1, l_n1e, l_n1e2, l_n1l, l_n1l2, l_n1l3, not_true_eq_false, not_false_eq_true, true_implies, false_implies, true_and, and_true, and_self, forall_eq, bI_t, bI_f, Bool.false_eq_true, or_true, true_or, or_false, false_or, s1_ltx, if_true, if_false, Nat.add_zero, Nat.zero_add,  d_leF, d_leT, d_ltF, d_ltT, d_eqF, d_eqT]
      have hR3 : Lv I2 lev (M.take i ++ gN M i :: M.drop (i + 1)) := by rw [← hA]; exact hR2
      have bg := p_bringGreatest (post := fun I2 => wX3_codeAt (nI lev) (nI i) I2 (fun r3 => wX2_make (nI 1) (nI b) N1 ((r3 - r3 / nI 1194 * nI 1194) / nI 199) (r3 / nI 1194) (((r3 - r3 / nI 1194 * nI 1194) - (r3 - r3 / nI 1194 * nI 1194) / nI 199 * nI 199) - nI 99) I2 (fun r6 I5 => wX3_stack_6 (nI a) (nI lev) (nI fr) post f r6 (nI (i + 1)) I5))) hR3 hl (by rw [← hA]; omega) (fun e he => ⟨by have := (e6 e he).1; omega, (e6 e he).2⟩)
      rw [lA] at bg
      refine bg (fun I3 hF3 hR4 => ?_)
      have lz := bgk_l (gN M i) (M.drop (i + 1)) (M.drop (i + 1)).length
      have mz := bgk_m (gN M i) (M.drop (i + 1)) (M.drop (i + 1)).length (Nat.le_refl _)
      have dz := (bgk_d (gN M i) (M.drop (i + 1)) (M.drop (i + 1)).length (Nat.le_refl _)).1
      rw [List.take_length] at dz
      rw [dz] at e7
      generalize hx : (bgk (gN M i) (M.drop (i + 1)) (M.drop (i + 1)).length).1 = x at *
      generalize hz : (bgk (gN M i) (M.drop (i + 1)) (M.drop (i + 1)).length).2 = zs at *
      have lN : (M.take i ++ x :: zs).length = L.length := by rw [List.length_append, List.length_cons, lz, lA, List.length_drop]; omega
      have gx : gN (M.take i ++ x :: zs) i = x := by
        have := gN_mid (M.take i) x zs
        rw [lA] at this
        exact this
      obtain ⟨x1, x2⟩ := e6 x (mz x List.mem_cons_self)
      refine p_codeAt hR4 hl (by omega) (by omega) ?_
      rw [gx]
      obtain ⟨d1, d2, d3⟩ := cc_d x2
      have cb := cc_b (e := x) (by omega)
      simp (disch := omega) only [pk_div, pk_sub, fa_lit, nI_ltI, nI_leI, nI_eq, nI_add, pk_mul, nI_clamp, vp_in_nI, l_uk, l_n1, l_n1e, l_n1e2, l_n1l, l_n1l2, l_n1l3, not_true_eq_false, not_false_eq_true, true_implies, false_implies, true_and, and_true, and_self, forall_eq, bI_t, bI_f, Bool.false_eq_true, or_true, true_or, or_false, false_or, s1_ltx, if_true, if_false, Nat.add_zero, Nat.zero_add,  d_leF, d_leT, d_ltF, d_ltT, d_eqF, d_eqT]
      rw [d1] at d2 d3 ⊢
      rw [d2] at d3
      rw [d2, d3]
      have hF4 := hF.tr hF3.fs
      have hP3 : Pc I3 Q := Pc_fr hP2 (fun b h1 h2 => hF3.1 b (by omega) (by omega))
      have hT3 : Tc I3 T := hF4.gl.tc hT
      have hq : nW T Q Q.length (fq b x w) := by
        rw [← e5]
        exact fq_w e2 hb (by rw [e5]; exact x1) x2
      have dN : (M.take i ++ x :: zs).drop (i + 1) = zs := by
        rw [List.drop_append, lA, List.drop_eq_nil_of_le (by omega), show i + 1 - i = 1 by omega]
        rfl
      have okz : okL w zs := fun e he => e6 e (mz e (List.mem_cons_of_mem _ he))
      rw [chn] at e7
      refine p_mk (q := fq b x w) hT3 hwT hP3 e2 hq (fun c Q2 I4 em hP4 hF5 => ?_) (fun em => ?_)
      · obtain ⟨m1, m2, m3, m4, -⟩ := mk_ok e2 e3 hq em
        have mw := mk_w e2 e3 hq em
        rw [em] at e7
        refine hk (nI c, I4) ⟨hF4.tr (FS.pl hF5), Q2, _, lN, hR4.pl hF5, hX.tr m3, m1.1, hP4, Or.inr ⟨c, rfl, m1, m2, m4, mw, ?_, ?_⟩⟩
        · rw [dN]; exact okz
        · rw [dN]; exact e7
      · rw [em] at e7
        exact hk (N1, I3) ⟨hF4, Q, _, lN, hR4, hX, hQ, hP3, Or.inl ⟨rfl, e7⟩⟩
end ST
