/-! pure: the class's pending filters -/
/-- a filter's number in the class -/
def cc (e : Nat) : Nat := e / 1200 * 1194 + e / 200 % 6 * 199 + e % 200
theorem cc_lt {e f : Nat} (he : e % 200 < 199) (hf : f % 200 < 199) : cc e < cc f ↔ e < f := by unfold cc; omega
theorem cc_inj {e f : Nat} (he : e % 200 < 199) (hf : f % 200 < 199) (h : cc e = cc f) : e = f := by unfold cc at h; omega
theorem cc_col {e w : Nat} (he : e % 200 < 199) : cc e < w * 1194 ↔ e / 1200 < w := by unfold cc; omega
theorem cc_sub {e w : Nat} (h : w ≤ e / 1200) : cc e - w * 1194 = cc (e - 1200 * w) := by unfold cc; omega
theorem cc_b {e : Nat} (h : e / 1200 < 6) : cc e < 10000 := by unfold cc; omega
theorem cc_d {e : Nat} (he : e % 200 < 199) : cc e / 1194 = e / 1200 ∧ (cc e - cc e / 1194 * 1194) / 199 = e / 200 % 6 ∧ (cc e - cc e / 1194 * 1194) - (cc e - cc e / 1194 * 1194) / 199 * 199 = e % 200 := by unfold cc; omega
def gN (L : List Nat) (i : Nat) : Nat := L.getD i 0
theorem gN_t {L : List Nat} {i : Nat} (h : i < L.length) : L.take (i + 1) = L.take i ++ [gN L i] := by
  rw [List.take_succ_eq_append_getElem h]
  unfold gN
  rw [List.getD_eq_getElem?_getD, List.getElem?_eq_getElem h]
  rfl
theorem gN_m {L : List Nat} {i : Nat} (h : i < L.length) : gN L i ∈ L := by
  unfold gN
  rw [List.getD_eq_getElem?_getD, List.getElem?_eq_getElem h]
  exact List.getElem_mem h
theorem gN_l {L M : List Nat} {i : Nat} (h : i < L.length) : gN (L ++ M) i = gN L i := by
  unfold gN
  rw [List.getD_eq_getElem?_getD, List.getElem?_append_left h, ← List.getD_eq_getElem?_getD]
theorem gN_r {L M : List Nat} {i : Nat} (h : L.length ≤ i) : gN (L ++ M) i = gN M (i - L.length) := by
  unfold gN
  rw [List.getD_eq_getElem?_getD, List.getElem?_append_right h, ← List.getD_eq_getElem?_getD]
theorem gN_0 {x : Nat} {M : List Nat} : gN (x :: M) 0 = x := rfl
theorem gN_s {x : Nat} {M : List Nat} {i : Nat} : gN (x :: M) (i + 1) = gN M i := rfl
theorem gN_ext {L M : List Nat} (hl : L.length = M.length) (h : ∀ i, i < L.length → gN L i = gN M i) : L = M := by
  refine List.ext_getElem hl (fun i h1 h2 => ?_)
  have := h i h1
  unfold gN at this
  rw [List.getD_eq_getElem?_getD, List.getD_eq_getElem?_getD, List.getElem?_eq_getElem h1, List.getElem?_eq_getElem h2] at this
  exact this
theorem gN_d {L : List Nat} {i : Nat} (h : i < L.length) : L.drop i = gN L i :: L.drop (i + 1) := by
  rw [List.drop_eq_getElem_cons h]
  unfold gN
  rw [List.getD_eq_getElem?_getD, List.getElem?_eq_getElem h]
  rfl
/-- a level's row -/
def Lv (I : QI) (lev : Nat) (M : List Nat) : Prop := I 32 lev = nI M.length ∧ ∀ i, i < M.length → I 31 (lev * 24 + i) = nI (cc (gN M i))
/-- what rewriting may change, with a level's rows below kept -/
def GL (lev : Nat) (I I2 : QI) : Prop := (∀ b, b < 15 ∨ (23 ≤ b ∧ b < 30) ∨ 37 ≤ b → I2 b = I b) ∧ (∀ j, j < lev * 24 → I2 31 j = I 31 j) ∧ ∀ j, j < lev → I2 32 j = I 32 j
theorem GL.rf (lev : Nat) (I : QI) : GL lev I I := ⟨fun _ _ => rfl, fun _ _ => rfl, fun _ _ => rfl⟩
theorem GL.tr {lev : Nat} {I I2 I3 : QI} (h : GL lev I I2) (h2 : GL lev I2 I3) : GL lev I I3 := ⟨fun b hb => (h2.1 b hb).trans (h.1 b hb), fun j hj => (h2.2.1 j hj).trans (h.2.1 j hj), fun j hj => (h2.2.2 j hj).trans (h.2.2 j hj)⟩
theorem GL.dn {lev l2 : Nat} {I I2 : QI} (h : GL lev I I2) (hl : l2 ≤ lev) : GL l2 I I2 := ⟨h.1, fun j hj => h.2.1 j (by omega), fun j hj => h.2.2 j (by omega)⟩
theorem Lv.gl {lev l2 : Nat} {I I2 : QI} {M : List Nat} (h : Lv I l2 M) (hG : GL lev I I2) (hl : l2 < lev) (hM : M.length ≤ 24) : Lv I2 l2 M := ⟨(hG.2.2 l2 hl).trans h.1, fun i hi => (hG.2.1 _ (by omega)).trans (h.2 i hi)⟩
theorem GL.tc {lev : Nat} {I I2 : QI} {T : QT} (h : GL lev I I2) (hT : Tc I T) : Tc I2 T := ⟨by rw [h.1 1 (by omega)]; exact hT.1, fun u hu => by rw [h.1 (3 + 3 * u) (by omega), h.1 (4 + 3 * u) (by omega)]; exact hT.2 u hu⟩
section RL
variable {I : QI} {lev : Nat} {M : List Nat}
theorem p_lengthOf {post : Int32 → Prop} (h : Lv I lev M) (hl : lev < 25) (k : post (nI M.length)) : wX3_lengthOf (nI lev) I post := by
  unfold wX3_lengthOf
  simp (disch := omega) only [h.1, fa_lit, nI_ltI, nI_leI, nI_eq, nI_add, pk_mul, nI_clamp, vp_in_nI, l_uk, l_n1, l_n1e, l_n1e2, l_n1l, l_n1l2, l_n1l3, not_true_eq_false, not_false_eq_true, true_implies, false_implies, true_and, and_true, and_self, forall_eq, bI_t, bI_f, Bool.false_eq_true, or_true, true_or, or_false, false_or, s1_ltx, if_true, if_false, Nat.add_zero, Nat.zero_add,  d_leF, d_leT, d_ltF, d_ltT, d_eqF, d_eqT]
  exact k
theorem p_codeAt {i : Nat} {post : Int32 → Prop} (h : Lv I lev M) (hl : lev < 25) (hM : M.length ≤ 24) (hi : i < M.length) (k : post (nI (cc (gN M i)))) : wX3_codeAt (nI lev) (nI i) I post := by
  unfold wX3_codeAt
  simp (disch := omega) only [fa_lit, nI_ltI, nI_leI, nI_eq, nI_add, pk_mul, nI_clamp, vp_in_nI, l_uk, l_n1, l_n1e, l_n1e2, l_n1l, l_n1l2, l_n1l3, not_true_eq_false, not_false_eq_true, true_implies, false_implies, true_and, and_true, and_self, forall_eq, bI_t, bI_f, Bool.false_eq_true, or_true, true_or, or_false, false_or, s1_ltx, if_true, if_false, Nat.add_zero, Nat.zero_add,  d_leF, d_leT, d_ltF, d_ltT, d_eqF, d_eqT]
  refine p_lengthOf h hl ?_
  simp (disch := omega) only [h.2 i hi, fa_lit, nI_ltI, nI_leI, nI_eq, nI_add, pk_mul, nI_clamp, vp_in_nI, l_uk, l_n1, l_n1e, l_n1e2, l_n1l, l_n1l2, l_n1l3, not_true_eq_false, not_false_eq_true, true_implies, false_implies, true_and, and_true, and_self, forall_eq, bI_t, bI_f, Bool.false_eq_true, or_true, true_or, or_false, false_or, s1_ltx, if_true, if_false, Nat.add_zero, Nat.zero_add,  d_leF, d_leT, d_ltF, d_ltT, d_eqF, d_eqT]
  exact k
theorem p_empty {post : QI → Prop} (hl : lev < 25) (k : ∀ I2, (∀ b, b ≠ 32 → I2 b = I b) → (∀ j, j ≠ lev → I2 32 j = I 32 j) → Lv I2 lev [] → post I2) : wX3_empty (nI lev) I post := by
  unfold wX3_empty
  simp (disch := omega) only [fa_lit, nI_ltI, nI_leI, nI_eq, nI_add, pk_mul, nI_clamp, vp_in_nI, l_uk, l_n1, l_n1e, l_n1e2, l_n1l, l_n1l2, l_n1l3, not_true_eq_false, not_false_eq_true, true_implies, false_implies, true_and, and_true, and_self, forall_eq, bI_t, bI_f, Bool.false_eq_true, or_true, true_or, or_false, false_or, s1_ltx, if_true, if_false, Nat.add_zero, Nat.zero_add,  d_leF, d_leT, d_ltF, d_ltT, d_eqF, d_eqT]
  exact k _ (fun b hb => nr_u2 hb) (fun j hj => q_u2_j _ _ _ hj) ⟨q_u2_s _ _ _ _, fun i hi => absurd hi (Nat.not_lt_zero i)⟩
/-- a level's row alone is written -/
def F1 (lev : Nat) (I I2 : QI) : Prop := (∀ b, b ≠ 31 → b ≠ 32 → I2 b = I b) ∧ (∀ j, j < lev * 24 ∨ lev * 24 + 24 ≤ j → I2 31 j = I 31 j) ∧ ∀ j, j ≠ lev → I2 32 j = I 32 j
theorem F1.rf (lev : Nat) (I : QI) : F1 lev I I := ⟨fun _ _ _ => rfl, fun _ _ => rfl, fun _ _ => rfl⟩
theorem F1.tr {I2 I3 : QI} (h : F1 lev I I2) (h2 : F1 lev I2 I3) : F1 lev I I3 := ⟨fun b h1 h3 => (h2.1 b h1 h3).trans (h.1 b h1 h3), fun j hj => (h2.2.1 j hj).trans (h.2.1 j hj), fun j hj => (h2.2.2 j hj).trans (h.2.2 j hj)⟩
theorem F1.gl {I2 : QI} {l2 : Nat} (h : F1 lev I I2) (hl : l2 ≤ lev) : GL l2 I I2 := ⟨fun b hb => h.1 b (by omega) (by omega), fun j hj => h.2.1 j (Or.inl (by have := Nat.mul_le_mul_right 24 hl; omega)), fun j hj => h.2.2 j (by omega)⟩
theorem F1.lv {I2 : QI} {l2 : Nat} {N : List Nat} (h : F1 lev I I2) (hN : Lv I l2 N) (hl : l2 ≠ lev) (hM : N.length ≤ 24) : Lv I2 l2 N := by
  refine ⟨(h.2.2 l2 hl).trans hN.1, fun i hi => (h.2.1 _ ?_).trans (hN.2 i hi)⟩
  rcases Nat.lt_or_gt_of_ne hl with h3 | h3
  · exact Or.inl (by omega)
  · exact Or.inr (by omega)
theorem p_rapp {e : Nat} {post : QI → Prop} (h : Lv I lev M) (hl : lev < 25) (hM : M.length < 24) (k : ∀ I2, F1 lev I I2 → Lv I2 lev (M ++ [e]) → post I2) : wX3_append (nI lev) (nI (cc e)) I post := by
  unfold wX3_append wX3_setCode wX3_lengthOf
  simp (disch := omega) only [h.1, pk_sub, q_u2_s, ne_u2, nr_u2, fa_lit, nI_ltI, nI_leI, nI_eq, nI_add, pk_mul, nI_clamp, vp_in_nI, l_uk, l_n1, l_n1e, l_n1e2, l_n1l, l_n1l2, l_n1l3, not_true_eq_false, not_false_eq_true, true_implies, false_implies, true_and, and_true, and_self, forall_eq, bI_t, bI_f, Bool.false_eq_true, or_true, true_or, or_false, false_or, s1_ltx, if_true, if_false, Nat.add_zero, Nat.zero_add,  d_leF, d_leT, d_ltF, d_ltT, d_eqF, d_eqT]
  rw [show M.length + 1 - 1 = M.length by omega]
  refine k _ ⟨fun b h1 h2 => by rw [nr_u2 h1, nr_u2 h2], fun j hj => by rw [q_u2_j _ _ _ (by omega), nr_u2 (by omega)], fun j hj => by rw [nr_u2 (by omega), q_u2_j _ _ _ hj]⟩ ⟨?_, fun i hi => ?_⟩
  · rw [List.length_append, nr_u2 (by omega)]
    exact q_u2_s _ _ _ _
  · rw [List.length_append] at hi
    have hi2 : i < M.length + 1 := hi
    by_cases e2 : i = M.length
    · subst e2
      rw [gN_r (Nat.le_refl _), Nat.sub_self, gN_0]
      exact q_u2_s _ _ _ _
    · rw [gN_l (by omega), q_u2_j _ _ _ (by omega), nr_u2 (by omega)]
      exact h.2 i (by omega)
/-- a value put at a place of the row -/
theorem p_setCode {i e : Nat} {post : QI → Prop} (h : Lv I lev M) (hl : lev < 25) (hM : M.length ≤ 24) (hi : i < M.length) (k : ∀ I2, F1 lev I I2 → Lv I2 lev (M.set i e) → post I2) : wX3_setCode (nI lev) (nI i) (nI (cc e)) I post := by
  unfold wX3_setCode
  simp (disch := omega) only [fa_lit, nI_ltI, nI_leI, nI_eq, nI_add, pk_mul, nI_clamp, vp_in_nI, l_uk, l_n1, l_n1e, l_n1e2, l_n1l, l_n1l2, l_n1l3, not_true_eq_false, not_false_eq_true, true_implies, false_implies, true_and, and_true, and_self, forall_eq, bI_t, bI_f, Bool.false_eq_true, or_true, true_or, or_false, false_or, s1_ltx, if_true, if_false, Nat.add_zero, Nat.zero_add,  d_leF, d_leT, d_ltF, d_ltT, d_eqF, d_eqT]
  refine p_lengthOf h hl ?_
  simp (disch := omega) only [fa_lit, nI_ltI, nI_leI, nI_eq, nI_add, pk_mul, nI_clamp, vp_in_nI, l_uk, l_n1, l_n1e, l_n1e2, l_n1l, l_n1l2, l_n1l3, not_true_eq_false, not_false_eq_true, true_implies, false_implies, true_and, and_true, and_self, forall_eq, bI_t, bI_f, Bool.false_eq_true, or_true, true_or, or_false, false_or, s1_ltx, if_true, if_false, Nat.add_zero, Nat.zero_add,  d_leF, d_leT, d_ltF, d_ltT, d_eqF, d_eqT]
  refine k _ ⟨fun b h1 h2 => nr_u2 h1, fun j hj => q_u2_j _ _ _ (by omega), fun j hj => by rw [nr_u2 (by omega)]⟩ ⟨?_, fun j hj => ?_⟩
  · rw [List.length_set, nr_u2 (by omega)]
    exact h.1
  · rw [List.length_set] at hj
    by_cases e2 : j = i
    · subst e2
      rw [q_u2_s]
      unfold gN
      rw [List.getD_eq_getElem?_getD, List.getElem?_set_self hj]
      rfl
    · rw [q_u2_j _ _ _ (by omega), h.2 j hj]
      unfold gN
      rw [List.getD_eq_getElem?_getD, List.getD_eq_getElem?_getD, List.getElem?_set_ne (fun z => e2 z.symm)]
end RL
