/-! pure: the reference's lists of filters and its pairs -/
/-- a list's content: 0 for none, the place and one more -/
def lcn (C : List (List Nat)) (r : Nat) : List Nat := if r = 0 then [] else C.getD (r - 1) []
theorem lcn_0 (C : List (List Nat)) : lcn C 0 = [] := rfl
theorem lcn_s (C : List (List Nat)) (k : Nat) : lcn C (k + 1) = C.getD k [] := rfl
theorem lcn_l {C D : List (List Nat)} {r : Nat} (h : r ≤ C.length) : lcn (C ++ D) r = lcn C r := by
  unfold lcn
  by_cases e : r = 0
  · rw [if_pos e, if_pos e]
  · rw [if_neg e, if_neg e, List.getD_eq_getElem?_getD, List.getElem?_append_left (by omega), ← List.getD_eq_getElem?_getD]
/-- no list twice, none empty -/
def cOk (C : List (List Nat)) : Prop := (∀ k, k < C.length → C.getD k [] ≠ []) ∧ ∀ i j, i < j → j < C.length → C.getD i [] ≠ C.getD j []
theorem lcn_inj {C : List (List Nat)} (h : cOk C) {a b : Nat} (ha : a ≤ C.length) (hb : b ≤ C.length) (e : lcn C a = lcn C b) : a = b := by
  cases a with
  | zero =>
    cases b with
    | zero => rfl
    | succ b =>
      rw [lcn_0, lcn_s] at e
      exact absurd e.symm (h.1 b (by omega))
  | succ a =>
    cases b with
    | zero =>
      rw [lcn_0, lcn_s] at e
      exact absurd e (h.1 a (by omega))
    | succ b =>
      rw [lcn_s, lcn_s] at e
      rcases Nat.lt_trichotomy a b with z | z | z
      · exact absurd e (h.2 a b z (by omega))
      · rw [z]
      · exact absurd e.symm (h.2 b a z (by omega))
abbrev QP5 : Type := Nat × Nat × Nat × Nat × Nat
/-- where the growing rows lie -/
def gP (S : QS) (p : QP5) (u v : Nat) : Prop :=
  (S.2.2.2.2 51 25 = some p.1 ∧ S.2.2.2.2 51 26 = some p.2.1 ∧ S.2.2.2.2 51 28 = some p.2.2.1 ∧ S.2.2.2.2 51 29 = some p.2.2.2.1 ∧ S.2.2.2.2 51 30 = some p.2.2.2.2) ∧
  (S.2.2.2.1 p.1 = 64 * u ∧ S.2.2.2.1 p.2.1 = 64 * u ∧ S.2.2.2.1 p.2.2.1 = 64 * v ∧ S.2.2.2.1 p.2.2.2.1 = 64 * v ∧ S.2.2.2.1 p.2.2.2.2 = 64 * v) ∧
  ((70 ≤ p.1 ∧ p.1 < S.2.1) ∧ (70 ≤ p.2.1 ∧ p.2.1 < S.2.1) ∧ (70 ≤ p.2.2.1 ∧ p.2.2.1 < S.2.1) ∧ (70 ≤ p.2.2.2.1 ∧ p.2.2.2.1 < S.2.1) ∧ (70 ≤ p.2.2.2.2 ∧ p.2.2.2.2 < S.2.1)) ∧
  ((p.1 < 75 ∨ 80 ≤ p.1) ∧ (p.2.1 < 75 ∨ 80 ≤ p.2.1) ∧ (p.2.2.1 < 75 ∨ 80 ≤ p.2.2.1) ∧ (p.2.2.2.1 < 75 ∨ 80 ≤ p.2.2.2.1) ∧ (p.2.2.2.2 < 75 ∨ 80 ≤ p.2.2.2.2)) ∧
  (p.1 ≠ p.2.1 ∧ p.1 ≠ p.2.2.1 ∧ p.1 ≠ p.2.2.2.1 ∧ p.1 ≠ p.2.2.2.2 ∧ p.2.1 ≠ p.2.2.1 ∧ p.2.1 ≠ p.2.2.2.1 ∧ p.2.1 ≠ p.2.2.2.2 ∧ p.2.2.1 ≠ p.2.2.2.1 ∧ p.2.2.1 ≠ p.2.2.2.2 ∧ p.2.2.2.1 ≠ p.2.2.2.2)
/-- the lists' rows -/
def Lt (I : QI) (p1 p2 : Nat) (C : List (List Nat)) : Prop := I 51 24 = nI C.length ∧ ∀ k, k < C.length → ∃ e r, C.getD k [] = e :: lcn C r ∧ I p1 k = nI e ∧ I p2 k = sB r ∧ r ≤ k ∧ e < 7200
abbrev Pr : Type := Nat × Nat × Int32
def pr (PS : List Pr) (k : Nat) : Pr := PS.getD k (0, 0, 0)
def Pt (I : QI) (q1 q2 q3 : Nat) (PS : List Pr) : Prop := I 51 27 = nI PS.length ∧ ∀ k, k < PS.length → I q1 k = nI (pr PS k).1 ∧ I q2 k = sB (pr PS k).2.1 ∧ I q3 k = (pr PS k).2.2
/-- what the reference's rewriting keeps: lists, pairs, how long their rows are -/
abbrev RS : Type := List (List Nat) × Nat × List Pr × Nat
def AT (S : QS) (I : QI) (R : RS) : Prop := ∃ p : QP5, gP S p R.2.1 R.2.2.2 ∧ Lt I p.1 p.2.1 R.1 ∧ Pt I p.2.2.1 p.2.2.2.1 p.2.2.2.2 R.2.2.1 ∧ cOk R.1 ∧ R.1.length ≤ 64 * R.2.1 ∧ R.2.2.1.length ≤ 64 * R.2.2.2 ∧ 1 ≤ R.2.1 ∧ 1 ≤ R.2.2.2 ∧ R.2.1 ≤ 16384 ∧ R.2.2.2 ≤ 4096 ∧ 80 ≤ S.2.1 ∧ S.2.1 ≤ 75 + 2 * R.2.1 + 3 * R.2.2.2
/-- what stays: all but the plan, the lists, the pairs, the chain -/
def FR (I I2 : QI) : Prop := (∀ b, b < 51 ∨ (52 ≤ b ∧ b ≤ 54) ∨ (62 ≤ b ∧ b ≤ 69) ∨ (76 ≤ b ∧ b ≤ 79) → I2 b = I b) ∧ ∀ j, j ≠ 5 → j ≠ 24 → j ≠ 27 → j ≠ 32 → I2 51 j = I 51 j
theorem FR.rf (I : QI) : FR I I := ⟨fun _ _ => rfl, fun _ _ _ _ _ => rfl⟩
theorem FR.tr {I I2 I3 : QI} (h : FR I I2) (h2 : FR I2 I3) : FR I I3 := ⟨fun b hb => (h2.1 b hb).trans (h.1 b hb), fun j a b c d => (h2.2 j a b c d).trans (h.2 j a b c d)⟩
/-- lists and pairs alone are written -/
def FL1 (I I2 : QI) : Prop := (∀ b, b < 51 ∨ (52 ≤ b ∧ b < 70) ∨ (75 ≤ b ∧ b < 80) → I2 b = I b) ∧ ∀ j, j ≠ 24 → j ≠ 27 → I2 51 j = I 51 j
theorem FL1.rf (I : QI) : FL1 I I := ⟨fun _ _ => rfl, fun _ _ _ => rfl⟩
theorem FL1.tr {I I2 I3 : QI} (h : FL1 I I2) (h2 : FL1 I2 I3) : FL1 I I3 := ⟨fun b hb => (h2.1 b hb).trans (h.1 b hb), fun j a b => (h2.2 j a b).trans (h.2 j a b)⟩
theorem FL1.fr {I I2 : QI} (h : FL1 I I2) : FR I I2 := ⟨fun b hb => h.1 b (by omega), fun j _ a b _ => h.2 j a b⟩
theorem FL1.pm {I I2 : QI} {P : List Nd} (h : FL1 I I2) (hP : Pm I P) : Pm I2 P := by
  refine ⟨by rw [h.2 5 (by omega) (by omega)]; exact hP.1, fun n hn => ?_⟩
  rw [h.1 55 (by omega), h.1 56 (by omega), h.1 57 (by omega), h.1 58 (by omega), h.1 59 (by omega), h.1 60 (by omega), h.1 61 (by omega)]
  exact hP.2 n hn
theorem b_S {S : QS} {j p : Nat} {Q : Nat → Prop} (h : S.2.2.2.2 51 j = some p) (k : Q p) : ∀ q : Nat, S.2.2.2.2 51 j = some q → Q q := fun q hq => by
  rw [h] at hq
  cases hq
  exact k
theorem nS_r {S : QS} {a ci z : Nat} {j i : Nat} (h : j < S.2.1) : (q_nS S a ci z).2.2.2.2 j i = S.2.2.2.2 j i := by
  show (if j = S.2.1 then (fun _ => none) else S.2.2.2.2 j) i = _
  rw [if_neg (by omega)]
theorem nS_z {S : QS} {a ci z : Nat} {j : Nat} (h : j < S.2.1) : (q_nS S a ci z).2.2.2.1 j = S.2.2.2.1 j := if_neg (by omega)
theorem nS_n {S : QS} {a ci z : Nat} : (q_nS S a ci z).2.2.2.1 S.2.1 = z := if_pos rfl
/-- the table of lists, one more -/
def lof (X : List (List Nat) × Nat) (M : List Nat) : List (List Nat) × Nat := if M ∈ X.1 then X else (X.1 ++ [M], if X.1.length = 64 * X.2 then 2 * X.2 else X.2)
theorem lof_m {X : List (List Nat) × Nat} {M : List Nat} (h : M ∈ X.1) : lof X M = X := if_pos h
theorem getD_mem {C : List (List Nat)} {k : Nat} (h : k < C.length) : C.getD k [] ∈ C := by
  rw [List.getD_eq_getElem?_getD, List.getElem?_eq_getElem h]
  exact List.getElem_mem h
theorem mem_getD {C : List (List Nat)} {M : List Nat} (h : M ∈ C) : ∃ k, k < C.length ∧ C.getD k [] = M := by
  obtain ⟨k, hk, e⟩ := List.mem_iff_getElem.mp h
  refine ⟨k, hk, ?_⟩
  rw [List.getD_eq_getElem?_getD, List.getElem?_eq_getElem hk]
  exact e
theorem cOk_one {C : List (List Nat)} {e : Nat} {L : List Nat} (h : cOk C) (hn : ¬ (e :: L) ∈ C) : cOk (C ++ [e :: L]) := by
  refine ⟨fun k hk => ?_, fun i j hij hj => ?_⟩
  · rw [List.length_append] at hk
    have hk2 : k < C.length + 1 := hk
    by_cases e2 : k = C.length
    · subst e2
      rw [gd_e]
      exact fun z => (nomatch z)
    · rw [gd_l (by omega)]
      exact h.1 k (by omega)
  · rw [List.length_append] at hj
    have hj2 : j < C.length + 1 := hj
    by_cases e2 : j = C.length
    · subst e2
      rw [gd_e, gd_l hij]
      intro z
      rw [← z] at hn
      exact hn (getD_mem hij)
    · rw [gd_l (by omega), gd_l (by omega)]
      exact h.2 i j hij (by omega)
theorem Lt_one {I I2 : QI} {p1 p2 q1 q2 e r : Nat} {C : List (List Nat)} (h : Lt I p1 p2 C) (hr : r ≤ C.length) (he : e < 7200) (h24 : I2 51 24 = nI (C.length + 1)) (o1 : ∀ k, k < C.length → I2 q1 k = I p1 k) (o2 : ∀ k, k < C.length → I2 q2 k = I p2 k) (n1 : I2 q1 C.length = nI e) (n2 : I2 q2 C.length = sB r) : Lt I2 q1 q2 (C ++ [e :: lcn C r]) := by
  refine ⟨by rw [List.length_append]; exact h24, fun k hk => ?_⟩
  rw [List.length_append] at hk
  have hk2 : k < C.length + 1 := hk
  by_cases e2 : k = C.length
  · subst e2
    exact ⟨e, r, by rw [gd_e, lcn_l hr], n1, n2, hr, he⟩
  · obtain ⟨e', r', x1, x2, x3, x4, x5⟩ := h.2 k (by omega)
    exact ⟨e', r', by rw [gd_l (by omega), x1, lcn_l (by omega)], by rw [o1 k (by omega), x2], by rw [o2 k (by omega), x3], x4, x5⟩
theorem Pt_fr {I I2 : QI} {q1 q2 q3 : Nat} {PS : List Pr} (h : Pt I q1 q2 q3 PS) (h27 : I2 51 27 = I 51 27) (e1 : I2 q1 = I q1) (e2 : I2 q2 = I q2) (e3 : I2 q3 = I q3) : Pt I2 q1 q2 q3 PS := ⟨by rw [h27]; exact h.1, fun k hk => by rw [e1, e2, e3]; exact h.2 k hk⟩
theorem m_listOf_2 {S : QS} {I : QI} {C : List (List Nat)} {p1 p2 u e r : Nat} {K : QI → Prop} {post : Int32 → QS → QI → Prop} (r1 : S.2.2.2.2 51 25 = some p1) (r2 : S.2.2.2.2 51 26 = some p2) (z1 : S.2.2.2.1 p1 = 64 * u) (z2 : S.2.2.2.1 p2 = 64 * u) (u9 : u ≤ 16384) (lC : C.length ≤ 64 * u) (hL : Lt I p1 p2 C) (hO : cOk C) (he : e < 7200) (hr : r ≤ C.length) (hK : ¬ (e :: lcn C r) ∈ C → K I) (h : ∀ k, k < C.length → C.getD k [] = e :: lcn C r → post (nI k) S I) : ∃ f, wX8_listOf_2 S (nI e) (sB r) K post f 0 I := by
  refine lp (fun f k (_ : Unit) => wX8_listOf_2 S (nI e) (sB r) K post f (nI k) I) (fun k _ => ∀ j, j < k → C.getD j [] ≠ e :: lcn C r) C.length ?_ ?_ 0 () (Nat.zero_le _) (fun j hj => absurd hj (Nat.not_lt_zero j))
  · intro f _ hI
    have hno : ¬ (e :: lcn C r) ∈ C := fun z => by
      obtain ⟨k, hk, e2⟩ := mem_getD z
      exact hI k hk e2
    show wX8_listOf_2 _ _ _ _ _ _ _ _
    rw [wX8_listOf_2]
    simp (disch := omega) only [hL.1, fa_lit, nI_ltI, nI_leI, nI_eq, nI_add, pk_mul, nI_clamp, vp_in_nI, l_uk, l_n1, l_n1e, l_n1e2, l_n1l, l_n1l2, l_n1l3, not_true_eq_false, not_false_eq_true, true_implies, false_implies, true_and, and_true, and_self, forall_eq, bI_t, bI_f, Bool.false_eq_true, or_true, true_or, or_false, false_or, s1_ltx, if_true, if_false, Nat.add_zero, Nat.zero_add,  d_leF, d_leT, d_ltF, d_ltT, d_eqF, d_eqT]
    exact hK hno
  · intro f k _ hk hI hkk
    obtain ⟨e', r', x1, x2, x3, x4, x5⟩ := hL.2 k hk
    have hno : ¬ (e' = e ∧ r' = r) → wX8_listOf_2 S (nI e) (sB r) K post f (nI (k + 1)) I := fun hn => hkk () (fun j hj => by
      by_cases e2 : j = k
      · subst e2
        rw [x1]
        intro z
        injection z with z1 z2
        exact hn ⟨z1, lcn_inj hO (by omega) hr z2⟩
      · exact hI j (by omega))
    show wX8_listOf_2 _ _ _ _ _ _ _ _
    rw [wX8_listOf_2]
    simp (disch := omega) only [hL.1, fa_lit, nI_ltI, nI_leI, nI_eq, nI_add, pk_mul, nI_clamp, vp_in_nI, l_uk, l_n1, l_n1e, l_n1e2, l_n1l, l_n1l2, l_n1l3, not_true_eq_false, not_false_eq_true, true_implies, false_implies, true_and, and_true, and_self, forall_eq, bI_t, bI_f, Bool.false_eq_true, or_true, true_or, or_false, false_or, s1_ltx, if_true, if_false, Nat.add_zero, Nat.zero_add,  d_leF, d_leT, d_ltF, d_ltT, d_eqF, d_eqT]
    refine b_S r1 ?_
    simp (disch := omega) only [z1, x2, fa_lit, nI_ltI, nI_leI, nI_eq, nI_add, pk_mul, nI_clamp, vp_in_nI, l_uk, l_n1, l_n1e, l_n1e2, l_n1l, l_n1l2, l_n1l3, not_true_eq_false, not_false_eq_true, true_implies, false_implies, true_and, and_true, and_self, forall_eq, bI_t, bI_f, Bool.false_eq_true, or_true, true_or, or_false, false_or, s1_ltx, if_true, if_false, Nat.add_zero, Nat.zero_add,  d_leF, d_leT, d_ltF, d_ltT, d_eqF, d_eqT]
    refine ⟨fun e2 => hno (fun z => e2 z.1), fun e2 => ?_⟩
    refine b_S r2 ?_
    simp (disch := omega) only [z2, x3, sB_inj, fa_lit, nI_ltI, nI_leI, nI_eq, nI_add, pk_mul, nI_clamp, vp_in_nI, l_uk, l_n1, l_n1e, l_n1e2, l_n1l, l_n1l2, l_n1l3, not_true_eq_false, not_false_eq_true, true_implies, false_implies, true_and, and_true, and_self, forall_eq, bI_t, bI_f, Bool.false_eq_true, or_true, true_or, or_false, false_or, s1_ltx, if_true, if_false, Nat.add_zero, Nat.zero_add,  d_leF, d_leT, d_ltF, d_ltT, d_eqF, d_eqT]
    refine ⟨fun e3 => hno (fun z => e3 z.2), fun e3 => ?_⟩
    exact h k hk (by rw [x1, e2, e3])
theorem FL1.of {I I2 : QI} {p1 p2 : Nat} (g1 : 70 ≤ p1) (g2 : p1 < 75 ∨ 80 ≤ p1) (g3 : 70 ≤ p2) (g4 : p2 < 75 ∨ 80 ≤ p2) (h : ∀ b, b ≠ p1 → b ≠ p2 → b ≠ 51 → I2 b = I b) (h2 : ∀ j, j ≠ 24 → I2 51 j = I 51 j) : FL1 I I2 := ⟨fun b hb => h b (by omega) (by omega) (by omega), fun j hj _ => h2 j hj⟩
theorem AT.mk {S : QS} {I : QI} {C : List (List Nat)} {PS : List Pr} {u v p1 p2 q1 q2 q3 : Nat} (hg : gP S (p1, p2, q1, q2, q3) u v) (hL : Lt I p1 p2 C) (hP : Pt I q1 q2 q3 PS) (hO : cOk C) (lC : C.length ≤ 64 * u) (lP : PS.length ≤ 64 * v) (u1 : 1 ≤ u) (v1 : 1 ≤ v) (u9 : u ≤ 16384) (v9 : v ≤ 4096) (S80 : 80 ≤ S.2.1) (SN : S.2.1 ≤ 75 + 2 * u + 3 * v) : AT S I (C, u, PS, v) := ⟨(p1, p2, q1, q2, q3), hg, hL, hP, hO, lC, lP, u1, v1, u9, v9, S80, SN⟩
theorem AT.un {S : QS} {I : QI} {C : List (List Nat)} {PS : List Pr} {u v : Nat} (h : AT S I (C, u, PS, v)) : ∃ p1 p2 q1 q2 q3, gP S (p1, p2, q1, q2, q3) u v ∧ Lt I p1 p2 C ∧ Pt I q1 q2 q3 PS ∧ cOk C ∧ C.length ≤ 64 * u ∧ PS.length ≤ 64 * v ∧ 1 ≤ u ∧ 1 ≤ v ∧ u ≤ 16384 ∧ v ≤ 4096 ∧ 80 ≤ S.2.1 ∧ S.2.1 ≤ 75 + 2 * u + 3 * v := by
  obtain ⟨⟨p1, p2, q1, q2, q3⟩, h⟩ := h
  exact ⟨p1, p2, q1, q2, q3, h⟩
theorem sR_r {S : QS} {R : Nat → Nat → Option Nat} : (q_sR S R).2.2.2.2 = R := rfl
theorem sR_z {S : QS} {R : Nat → Nat → Option Nat} : (q_sR S R).2.2.2.1 = S.2.2.2.1 := rfl
theorem nr_rw {f : QI} {a b : Nat} {g : Nat → Int32} (h : b ≠ a) : q_rw f a g b = f b := if_neg h
theorem rw_s {f : QI} {a : Nat} {g : Nat → Int32} : q_rw f a g a = g := if_pos rfl
set_option maxHeartbeats 1000000 in
theorem m_listOf {S : QS} {I : QI} {C : List (List Nat)} {u : Nat} {PS : List Pr} {v e r c s : Nat} {post : Int32 → QS → QI → Prop} (hA : AT S I (C, u, PS, v)) (he : e < 7200) (hr : r ≤ C.length) (hu : (lof (C, u) (e :: lcn C r)).2 ≤ 16384) (hc : 2 * ((lof (C, u) (e :: lcn C r)).2 - u) ≤ c) (hs : 256 * ((lof (C, u) (e :: lcn C r)).2 - u) ≤ s) (h : ∀ k S2 I2, k < (lof (C, u) (e :: lcn C r)).1.length → (lof (C, u) (e :: lcn C r)).1.getD k [] = e :: lcn C r → AT S2 I2 ((lof (C, u) (e :: lcn C r)).1, (lof (C, u) (e :: lcn C r)).2, PS, v) → FL1 I I2 → post (nI k) S2 I2) : wX8_listOf (nI e) (sB r) S I c s post := by
  have hA0 := hA
  obtain ⟨p1, p2, q1, q2, q3, hg, hL, hP, hO, lC, lP, u1, v1, u9, v9, S80, SN⟩ := hA.un
  have hg0 := hg
  obtain ⟨⟨r1, r2, r3, r4, r5⟩, ⟨z1, z2, z3, z4, z5⟩, ⟨⟨a1, b1⟩, ⟨a2, b2⟩, ⟨a3, b3⟩, ⟨a4, b4⟩, ⟨a5, b5⟩⟩, ⟨g1, g2, g3, g4, g5⟩, ⟨n12, n13, n14, n15, n23, n24, n25, n34, n35, n45⟩⟩ := hg
  simp only at r1 r2 r3 r4 r5 z1 z2 z3 z4 z5 a1 a2 a3 a4 a5 b1 b2 b3 b4 b5 g1 g2 g3 g4 g5 n12 n13 n14 n15 n23 n24 n25 n34 n35 n45
  unfold wX8_listOf
  refine m_listOf_2 r1 r2 z1 z2 u9 lC hL hO he hr (fun hno => ?_) (fun k hk e2 => ?_)
  · have hlof : lof (C, u) (e :: lcn C r) = (C ++ [e :: lcn C r], if C.length = 64 * u then 2 * u else u) := if_neg hno
    rw [hlof] at hu hc hs h
    replace hu : (if C.length = 64 * u then 2 * u else u) ≤ 16384 := hu
    replace hc : 2 * ((if C.length = 64 * u then 2 * u else u) - u) ≤ c := hc
    replace hs : 256 * ((if C.length = 64 * u then 2 * u else u) - u) ≤ s := hs
    replace h : ∀ k S2 I2, k < (C ++ [e :: lcn C r]).length → (C ++ [e :: lcn C r]).getD k [] = e :: lcn C r → AT S2 I2 (C ++ [e :: lcn C r], (if C.length = 64 * u then 2 * u else u), PS, v) → FL1 I I2 → post (nI k) S2 I2 := h
    have h9 := fun S2 I2 => h C.length S2 I2 (by rw [List.length_append]; exact Nat.lt_succ_self _) gd_e
    have hO2 := cOk_one hO hno
    have l2 : (C ++ [e :: lcn C r]).length = C.length + 1 := by rw [List.length_append]; rfl
    refine b_S r1 ?_
    rw [z1]
    have eN : Int32.ofNat (64 * u) = nI (64 * u) := rfl
    rw [eN, hL.1]
    by_cases e9 : C.length = 64 * u
    · rw [if_pos e9] at hu hc hs h9
      refine ⟨fun z => absurd (by rw [e9]) z, fun _ => ?_⟩
      refine b_S r1 ⟨1, 128 * u, by omega, by omega, ⟨by omega, by omega⟩, Nat.le_refl _, by omega, fun a => ?_⟩
      intro S17 hS17
      have t17 : S17.2.1 = S.2.1 + 1 := by rw [hS17]; rfl
      have s25 : S17.2.2.2.2 51 25 = some S.2.1 := by rw [hS17, sR_r]; exact q_u2_s _ _ _ _
      have sr : ∀ j, j ≠ 25 → S17.2.2.2.2 51 j = S.2.2.2.2 51 j := fun j hj => by
        rw [hS17]
        show q_u2 (q_nS S a 9 (2 * S.2.2.2.1 p1)).2.2.2.2 51 25 _ 51 j = _
        rw [q_u2_j _ _ _ hj]
        exact nS_r (by omega)
      have sz : ∀ j, j < S.2.1 → S17.2.2.2.1 j = S.2.2.2.1 j := fun j hj => by rw [hS17, sR_z]; exact nS_z hj
      have szn : S17.2.2.2.1 S.2.1 = 128 * u := by
        rw [hS17]
        show (q_nS S a 9 (2 * S.2.2.2.1 p1)).2.2.2.1 S.2.1 = _
        rw [nS_n]
        omega
      have z2' := sz p2 b2
      refine b_S (by rw [sr 26 (by omega)]; exact r2) ⟨1, 128 * u, by omega, by omega, ⟨by omega, by omega⟩, Nat.le_refl _, by omega, fun a' => ?_⟩
      intro S23 hS23
      have t23 : S23.2.1 = S.2.1 + 2 := by rw [hS23]; show S17.2.1 + 1 = _; omega
      have w26 : S23.2.2.2.2 51 26 = some (S.2.1 + 1) := by rw [hS23, sR_r, ← t17]; exact q_u2_s _ _ _ _
      have wr : ∀ j, j ≠ 26 → S23.2.2.2.2 51 j = S17.2.2.2.2 51 j := fun j hj => by
        rw [hS23]
        show q_u2 (q_nS S17 a' 9 (2 * S17.2.2.2.1 p2)).2.2.2.2 51 26 _ 51 j = _
        rw [q_u2_j _ _ _ hj]
        exact nS_r (by omega)
      have wz : ∀ j, j < S.2.1 + 1 → S23.2.2.2.1 j = S17.2.2.2.1 j := fun j hj => by rw [hS23, sR_z]; exact nS_z (by omega)
      have wzn : S23.2.2.2.1 (S.2.1 + 1) = 128 * u := by
        rw [hS23, ← t17]
        show (q_nS S17 a' 9 (2 * S17.2.2.2.1 p2)).2.2.2.1 S17.2.1 = _
        rw [nS_n]
        omega
      rw [t17]
      have w25 : S23.2.2.2.2 51 25 = some S.2.1 := by rw [wr 25 (by omega)]; exact s25
      have wzm : S23.2.2.2.1 S.2.1 = 128 * u := by rw [wz _ (by omega)]; exact szn
      have hg2 : gP S23 (S.2.1, S.2.1 + 1, q1, q2, q3) (2 * u) v := by
        refine ⟨⟨w25, w26, ?_, ?_, ?_⟩, ⟨by show S23.2.2.2.1 S.2.1 = _; omega, by show S23.2.2.2.1 (S.2.1 + 1) = _; omega, ?_, ?_, ?_⟩, ⟨⟨by show 70 ≤ S.2.1; omega, by show S.2.1 < S23.2.1; omega⟩, ⟨by show 70 ≤ S.2.1 + 1; omega, by show S.2.1 + 1 < S23.2.1; omega⟩, ⟨a3, by show q1 < S23.2.1; omega⟩, ⟨a4, by show q2 < S23.2.1; omega⟩, ⟨a5, by show q3 < S23.2.1; omega⟩⟩, ⟨Or.inr S80, Or.inr (by show 80 ≤ S.2.1 + 1; omega), g3, g4, g5⟩, ⟨by show S.2.1 ≠ S.2.1 + 1; omega, by show S.2.1 ≠ q1; omega, by show S.2.1 ≠ q2; omega, by show S.2.1 ≠ q3; omega, by show S.2.1 + 1 ≠ q1; omega, by show S.2.1 + 1 ≠ q2; omega, by show S.2.1 + 1 ≠ q3; omega, n34, n35, n45⟩⟩
        · show S23.2.2.2.2 51 28 = some q1
          rw [wr 28 (by omega), sr 28 (by omega)]; exact r3
        · show S23.2.2.2.2 51 29 = some q2
          rw [wr 29 (by omega), sr 29 (by omega)]; exact r4
        · show S23.2.2.2.2 51 30 = some q3
          rw [wr 30 (by omega), sr 30 (by omega)]; exact r5
        · show S23.2.2.2.1 q1 = 64 * v
          rw [wz q1 (by omega), sz q1 b3]; exact z3
        · show S23.2.2.2.1 q2 = 64 * v
          rw [wz q2 (by omega), sz q2 b4]; exact z4
        · show S23.2.2.2.1 q3 = 64 * v
          rw [wz q3 (by omega), sz q3 b5]; exact z5
      refine b_S w25 ?_
      have c24 := hL.1
      simp (disch := omega) only [wzm, wzn, c24, nr_rw, rw_s, q_u2_s, ne_u2, nr_u2, fa_lit, nI_ltI, nI_leI, nI_eq, nI_add, pk_mul, nI_clamp, vp_in_nI, l_uk, l_n1, l_n1e, l_n1e2, l_n1l, l_n1l2, l_n1l3, not_true_eq_false, not_false_eq_true, true_implies, false_implies, true_and, and_true, and_self, forall_eq, bI_t, bI_f, Bool.false_eq_true, or_true, true_or, or_false, false_or, s1_ltx, if_true, if_false, Nat.add_zero, Nat.zero_add,  d_leF, d_leT, d_ltF, d_ltT, d_eqF, d_eqT]
      refine b_S w26 ?_
      simp (disch := omega) only [wzm, wzn, c24, nr_rw, rw_s, pk_sub, q_u2_s, ne_u2, nr_u2, fa_lit, nI_ltI, nI_leI, nI_eq, nI_add, pk_mul, nI_clamp, vp_in_nI, l_uk, l_n1, l_n1e, l_n1e2, l_n1l, l_n1l2, l_n1l3, not_true_eq_false, not_false_eq_true, true_implies, false_implies, true_and, and_true, and_self, forall_eq, bI_t, bI_f, Bool.false_eq_true, or_true, true_or, or_false, false_or, s1_ltx, if_true, if_false, Nat.add_zero, Nat.zero_add,  d_leF, d_leT, d_ltF, d_ltT, d_eqF, d_eqT]
      rw [show C.length + 1 - 1 = C.length by omega]
      refine h9 S23 _ (AT.mk hg2 ?_ ?_ hO2 (by omega) lP (by omega) v1 hu v9 (by omega) (by omega)) (FL1.of (p1 := S.2.1) (p2 := S.2.1 + 1) (by omega) (by omega) (by omega) (by omega) (fun b x y z => by rw [nr_u2 z, nr_u2 y, nr_u2 x, nr_rw y, nr_rw x]) (fun j x => by rw [q_u2_j _ _ _ x, nr_u2 (by omega), nr_u2 (by omega), nr_rw (by omega), nr_rw (by omega)]))
      · refine Lt_one hL hr he (q_u2_s _ _ _ _) (fun k hk => ?_) (fun k hk => ?_) ?_ ?_
        · rw [nr_u2 (by omega), nr_u2 (by omega), q_u2_j _ _ _ (by omega), nr_rw (by omega), rw_s]
          exact if_pos (by omega)
        · rw [nr_u2 (by omega), q_u2_j _ _ _ (by omega), nr_u2 (by omega), rw_s]
          refine (if_pos (by omega)).trans ?_
          rfl
        · rw [nr_u2 (by omega), nr_u2 (by omega)]
          exact q_u2_s _ _ _ _
        · rw [nr_u2 (by omega)]
          exact q_u2_s _ _ _ _
      · refine Pt_fr hP (by rw [q_u2_j _ _ _ (by omega), nr_u2 (by omega), nr_u2 (by omega), nr_rw (by omega), nr_rw (by omega)]) ?_ ?_ ?_
        · rw [nr_u2 (by omega), nr_u2 (by omega), nr_u2 (by omega), nr_rw (by omega), nr_rw (by omega)]
        · rw [nr_u2 (by omega), nr_u2 (by omega), nr_u2 (by omega), nr_rw (by omega), nr_rw (by omega)]
        · rw [nr_u2 (by omega), nr_u2 (by omega), nr_u2 (by omega), nr_rw (by omega), nr_rw (by omega)]
    · rw [if_neg e9] at hu hc hs h9
      refine ⟨fun _ => ?_, fun z => ?_⟩
      · refine b_S r1 ?_
        simp (disch := omega) only [z1, hL.1, q_u2_s, ne_u2, nr_u2, fa_lit, nI_ltI, nI_leI, nI_eq, nI_add, pk_mul, nI_clamp, vp_in_nI, l_uk, l_n1, l_n1e, l_n1e2, l_n1l, l_n1l2, l_n1l3, not_true_eq_false, not_false_eq_true, true_implies, false_implies, true_and, and_true, and_self, forall_eq, bI_t, bI_f, Bool.false_eq_true, or_true, true_or, or_false, false_or, s1_ltx, if_true, if_false, Nat.add_zero, Nat.zero_add,  d_leF, d_leT, d_ltF, d_ltT, d_eqF, d_eqT]
        refine b_S r2 ?_
        simp (disch := omega) only [z2, hL.1, pk_sub, q_u2_s, ne_u2, nr_u2, fa_lit, nI_ltI, nI_leI, nI_eq, nI_add, pk_mul, nI_clamp, vp_in_nI, l_uk, l_n1, l_n1e, l_n1e2, l_n1l, l_n1l2, l_n1l3, not_true_eq_false, not_false_eq_true, true_implies, false_implies, true_and, and_true, and_self, forall_eq, bI_t, bI_f, Bool.false_eq_true, or_true, true_or, or_false, false_or, s1_ltx, if_true, if_false, Nat.add_zero, Nat.zero_add,  d_leF, d_leT, d_ltF, d_ltT, d_eqF, d_eqT]
        rw [show C.length + 1 - 1 = C.length by omega]
        refine h9 S _ (AT.mk hg0 ?_ ?_ hO2 (by omega) lP u1 v1 u9 v9 S80 SN) (FL1.of a1 g1 a2 g2 (fun b x y z => by rw [nr_u2 z, nr_u2 y, nr_u2 x]) (fun j x => by rw [q_u2_j _ _ _ x, nr_u2 (by omega), nr_u2 (by omega)]))
        · refine Lt_one hL hr he (q_u2_s _ _ _ _) (fun k hk => ?_) (fun k hk => ?_) ?_ ?_
          · rw [nr_u2 (by omega), nr_u2 n12, q_u2_j _ _ _ (by omega)]
          · rw [nr_u2 (by omega), q_u2_j _ _ _ (by omega), nr_u2 (fun z => n12 z.symm)]
          · rw [nr_u2 (by omega), nr_u2 n12]
            exact q_u2_s _ _ _ _
          · rw [nr_u2 (by omega)]
            exact q_u2_s _ _ _ _
        · refine Pt_fr hP (by rw [q_u2_j _ _ _ (by omega), nr_u2 (by omega), nr_u2 (by omega)]) ?_ ?_ ?_
          · rw [nr_u2 (by omega), nr_u2 (fun z => n23 z.symm), nr_u2 (fun z => n13 z.symm)]
          · rw [nr_u2 (by omega), nr_u2 (fun z => n24 z.symm), nr_u2 (fun z => n14 z.symm)]
          · rw [nr_u2 (by omega), nr_u2 (fun z => n25 z.symm), nr_u2 (fun z => n15 z.symm)]
      · rw [nI_eq (by omega) (by omega)] at z
        exact absurd z e9
  · have hm : (e :: lcn C r) ∈ C := by
      rw [← e2]
      exact getD_mem hk
    rw [lof_m hm] at h
    exact h k S I hk e2 hA0 (FL1.rf _)
