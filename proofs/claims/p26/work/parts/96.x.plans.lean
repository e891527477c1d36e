/-! pure: plans: the class and the reference -/
def lw (s : Nat) : Nat := if s % 2 = 1 then 1 else if s % 4 = 2 then 2 else if s % 8 = 4 then 4 else 8
def isP (s p : Nat) : Bool := decide (p &&& s = p) && !decide (p &&& lw s = 0)
def bst (c : Nat → Nat) (s : Nat) : Nat → Option (Nat × Nat)
  | 0 => none
  | p + 1 => if isP s p then (match bst c s p with
    | none => some (c p + c (s ^^^ p), p)
    | some q => if c p + c (s ^^^ p) < q.1 then some (c p + c (s ^^^ p), p) else some q) else bst c s p
def bB (o : Option (Nat × Nat)) : Nat := match o with
  | none => 1000000
  | some q => q.1
def bQ (s : Nat) (o : Option (Nat × Nat)) : Nat := match o with
  | none => s
  | some q => q.2
def mB (o : Option (Nat × Nat)) : Int32 := match o with
  | none => N1
  | some q => nI q.1
theorem f_low : ∀ s, s < 16 → 1 ≤ s → nI s &&& -(nI s) = nI (lw s) := by decide +kernel
theorem f_lw : ∀ s, s < 16 → 1 ≤ s → 1 ≤ lw s ∧ lw s ≤ s := by decide +kernel
theorem f_isP0 : ∀ s, s < 16 → ∀ p, p < 16 → (isP s p = true ∧ p < s) → ((s ^^^ p) < s ∧ 0 < p ∧ 0 < (s ^^^ p) ∧ p + (s ^^^ p) = s) := by decide +kernel
theorem f_isP (s : Nat) (hs : s < 16) (p : Nat) (hp : p < 16) (h1 : isP s p = true) (h2 : p < s) : (s ^^^ p) < s ∧ 0 < p ∧ 0 < (s ^^^ p) ∧ p + (s ^^^ p) = s := f_isP0 s hs p hp ⟨h1, h2⟩
theorem f_lowest : ∀ s, s < 16 → 1 ≤ s → isP s (lw s) = true := by decide +kernel
theorem f_none : ∀ s, s < 16 → 1 ≤ s → ∀ p, p < 16 → p < lw s → isP s p = false := by decide +kernel
theorem f_and : ∀ s, s < 16 → ∀ p, p < 16 → ((nI p &&& nI s = nI p) ↔ (p &&& s = p)) := by decide +kernel
theorem f_and0 : ∀ s, s < 16 → ∀ p, p < 16 → ((nI p &&& nI s = nI 0) ↔ (p &&& s = 0)) := by decide +kernel
theorem f_not : ∀ s, s < 16 → ∀ p, p < 16 → ((nI p &&& (nI s ^^^ N1) = nI 0) ↔ (p &&& s = p)) := by decide +kernel
theorem f_xor : ∀ s, s < 16 → ∀ p, p < 16 → nI s ^^^ nI p = nI (s ^^^ p) := by decide +kernel
theorem f_rest : ∀ s, s < 16 → ∀ p, p < 16 → p &&& s = p → nI s &&& (nI p ^^^ N1) = nI (s ^^^ p) := by decide +kernel
theorem f_sub0 : ∀ s, s < 16 → ∀ w, w < 16 → ∀ p, p < 16 → (w &&& s = w ∧ p &&& w = p) → (p &&& s = p ∧ (w ^^^ p) &&& s = w ^^^ p) := by decide +kernel
theorem f_sub (s : Nat) (hs : s < 16) (w : Nat) (hw : w < 16) (p : Nat) (hp : p < 16) (h1 : w &&& s = w) (h2 : p &&& w = p) : p &&& s = p ∧ (w ^^^ p) &&& s = w ^^^ p := f_sub0 s hs w hw p hp ⟨h1, h2⟩
theorem f_shl : ∀ n, n ≤ 4 → nI 1 <<< (nI n &&& nI 31) = nI (2 ^ n) := by decide +kernel
theorem f_pow : ∀ n, n ≤ 4 → 2 ^ n ≤ 16 := by decide +kernel
theorem isP_t {s p : Nat} (h : isP s p = true) : p &&& s = p ∧ ¬ p &&& lw s = 0 := by
  unfold isP at h
  have h2 := (Bool.and_eq_true _ _).mp h
  refine ⟨of_decide_eq_true h2.1, fun z => ?_⟩
  rw [decide_eq_true z] at h2
  cases h2.2
theorem isP_f {s p : Nat} (h : isP s p = false) : ¬ p &&& s = p ∨ p &&& lw s = 0 := by
  unfold isP at h
  by_cases e : p &&& s = p
  · right
    rw [decide_eq_true e] at h
    apply Classical.byContradiction
    intro z
    rw [decide_eq_false z] at h
    cases h
  · exact Or.inl e
theorem bst_f {c : Nat → Nat} {s p : Nat} (h : isP s p = false) : bst c s (p + 1) = bst c s p := by rw [bst, h]; rfl
theorem bst_t {c : Nat → Nat} {s p : Nat} (h : isP s p = true) (hc : c p + c (s ^^^ p) < 1000000) : bst c s (p + 1) = if c p + c (s ^^^ p) < bB (bst c s p) then some (c p + c (s ^^^ p), p) else bst c s p := by
  rw [bst, if_pos h]
  cases e : bst c s p with
  | none => exact (if_pos hc).symm
  | some q => rfl
theorem bst_n {c : Nat → Nat} {s : Nat} : ∀ {n : Nat}, (∀ p, p < n → isP s p = false) → bst c s n = none
  | 0, _ => rfl
  | n + 1, h => by rw [bst_f (h n (by omega)), bst_n (fun p hp => h p (by omega))]
theorem bst_cg {c d : Nat → Nat} {s : Nat} : ∀ {n : Nat}, (∀ p, p < n → isP s p = true → c p = d p ∧ c (s ^^^ p) = d (s ^^^ p)) → bst c s n = bst d s n
  | 0, _ => rfl
  | n + 1, h => by
    have ih := bst_cg (n := n) (fun p hp => h p (by omega))
    rw [bst, bst, ih]
    cases e : isP s n
    · rfl
    · rw [(h n (by omega) e).1, (h n (by omega) e).2]
theorem bst_si {c : Nat → Nat} {s : Nat} : ∀ {n : Nat} {q : Nat × Nat}, bst c s n = some q → q.2 < n ∧ isP s q.2 = true ∧ q.1 = c q.2 + c (s ^^^ q.2)
  | 0, q, h => by cases h
  | n + 1, q, h => by
    rw [bst] at h
    cases e : isP s n
    · rw [e] at h
      obtain ⟨a, b⟩ := bst_si (n := n) h
      exact ⟨by omega, b⟩
    · rw [e, if_pos rfl] at h
      cases e2 : bst c s n with
      | none =>
        rw [e2] at h
        cases h
        exact ⟨Nat.lt_succ_self _, e, rfl⟩
      | some q2 =>
        rw [e2] at h
        have h2 : (if c n + c (s ^^^ n) < q2.1 then some (c n + c (s ^^^ n), n) else some q2) = some q := h
        split at h2
        · cases h2
          exact ⟨Nat.lt_succ_self _, e, rfl⟩
        · cases h2
          obtain ⟨a, b⟩ := bst_si (n := n) e2
          exact ⟨by omega, b⟩
theorem bst_some {c : Nat → Nat} {s p : Nat} (hp : isP s p = true) : ∀ {n : Nat}, p < n → bst c s n ≠ none
  | 0, h => absurd h (Nat.not_lt_zero p)
  | n + 1, h => by
    rw [bst]
    cases e : isP s n
    · have : p ≠ n := fun z => by rw [z, e] at hp; cases hp
      rw [if_neg (by decide)]
      exact bst_some hp (by omega)
    · rw [if_pos rfl]
      cases bst c s n with
      | none => exact fun z => (nomatch z)
      | some q =>
        show (if _ then _ else _) ≠ none
        split
        · exact fun z => (nomatch z)
        · exact fun z => (nomatch z)
def cs (T : QT) (K : List Q4) : Nat → Nat → Nat
  | 0, _ => 0
  | f + 1, s => if s = lw s then 0 else bB (bst (cs T K f) s s) + gs T K s
theorem cs_f {T : QT} {K : List Q4} : ∀ (f g s : Nat), s < 16 → 1 ≤ s → s < f → s < g → cs T K f s = cs T K g s := by
  intro f
  induction f with
  | zero => intro g s _ _ h; omega
  | succ f ih =>
    intro g s hs h1 hf hg
    cases g with
    | zero => omega
    | succ g =>
      rw [cs, cs, bst_cg (c := cs T K f) (d := cs T K g)]
      intro p hp e
      obtain ⟨a, b, c, d⟩ := f_isP s hs p (by omega) e hp
      exact ⟨ih g p (by omega) (by omega) (by omega) (by omega), ih g _ (by omega) (by omega) (by omega) (by omega)⟩
def CS (T : QT) (K : List Q4) (s : Nat) : Nat := cs T K 16 s
def SP (T : QT) (K : List Q4) (s : Nat) : Nat := bQ s (bst (CS T K) s s)
theorem CS_eq {T : QT} {K : List Q4} {s : Nat} (hs : s < 16) (h1 : 1 ≤ s) : CS T K s = if s = lw s then 0 else bB (bst (CS T K) s s) + gs T K s := by
  unfold CS
  rw [cs, bst_cg (c := cs T K 15) (d := cs T K 16)]
  intro p hp e
  obtain ⟨a, b, c, d⟩ := f_isP s hs p (by omega) e hp
  exact ⟨cs_f _ _ p (by omega) (by omega) (by omega) (by omega), cs_f _ _ _ (by omega) (by omega) (by omega) (by omega)⟩
theorem gs_le {T : QT} (hw : Tw T) {K : List Q4} {s : Nat} : gs T K s ≤ 10000 := by
  have := gl_le hw (K := K) (s := s) K.length
  unfold gs
  omega
theorem CS_b {T : QT} (hw : Tw T) {K : List Q4} : ∀ (f s : Nat), s < f → s < 16 → 1 ≤ s → CS T K s + 10000 ≤ 10000 * s := by
  intro f
  induction f with
  | zero => intro s h; omega
  | succ f ih =>
    intro s hf hs h1
    rw [CS_eq hs h1]
    split
    · omega
    · rename_i hl
      have hlw := f_lw s hs h1
      have g := gs_le hw (K := K) (s := s)
      cases e : bst (CS T K) s s with
      | none => exact absurd e (bst_some (f_lowest s hs h1) (by omega))
      | some q =>
        obtain ⟨x, y, z⟩ := bst_si e
        obtain ⟨a, b, c, d⟩ := f_isP s hs q.2 (by omega) y x
        have i1 := ih q.2 (by omega) (by omega) (by omega)
        have i2 := ih (s ^^^ q.2) (by omega) (by omega) (by omega)
        show q.1 + _ + _ ≤ _
        omega
section PP
variable {I : QI} {T : QT} {K : List Q4} {s : Nat}
theorem cost_lt (hw : Tw T) (hs : s < 16) {p : Nat} (hp : p < s) (e : isP s p = true) : CS T K p + CS T K (s ^^^ p) < 1000000 := by
  obtain ⟨a, b, c, d⟩ := f_isP s hs p (by omega) e hp
  have i1 := CS_b hw (K := K) 16 p (by omega) (by omega) (by omega)
  have i2 := CS_b hw (K := K) 16 (s ^^^ p) (by omega) (by omega) (by omega)
  omega
theorem bB_le {c : Nat → Nat} (hw : Tw T) (hs : s < 16) {n : Nat} (hn : n ≤ s) : bB (bst (CS T K) s n) ≤ 1000000 := by
  cases e : bst (CS T K) s n with
  | none => exact Nat.le_refl _
  | some q =>
    obtain ⟨x, y, z⟩ := bst_si e
    have := cost_lt hw (K := K) hs (p := q.2) (by omega) y
    show q.1 ≤ _
    omega
theorem p_planFor {post : QI → Prop} (hwT : Tw T) (hK : Kc I K) (hw : Kw T K) (hM : Ms I T K) (hs : s < 16) (h1 : 1 ≤ s) (hC : ∀ p, p < s → isP s p = true → I 44 p = nI (CS T K p) ∧ I 44 (s ^^^ p) = nI (CS T K (s ^^^ p))) (h : ∀ I2 : QI, (∀ b, b ≠ 44 → b ≠ 45 → I2 b = I b) → (∀ j, j ≠ s → I2 44 j = I 44 j ∧ I2 45 j = I 45 j) → I2 44 s = nI (CS T K s) → I2 45 s = nI (SP T K s) → post I2) : wX1_planFor (nI s) I post := by
  have hlw := f_lw s hs h1
  unfold wX1_planFor
  simp (disch := omega) only [f_low s hs h1, fa_lit, nI_ltI, nI_leI, nI_eq, nI_add, pk_mul, nI_clamp, vp_in_nI, l_uk, l_n1, l_n1e, l_n1e2, l_n1l, l_n1l2, l_n1l3, not_true_eq_false, not_false_eq_true, true_implies, false_implies, true_and, and_true, and_self, forall_eq, bI_t, bI_f, Bool.false_eq_true, or_true, true_or, or_false, false_or, s1_ltx, if_true, if_false, Nat.add_zero, Nat.zero_add,  d_leF, d_leT, d_ltF, d_ltT, d_eqF, d_eqT]
  have e0 : bst (CS T K) s (lw s) = none := bst_n (fun p hp => f_none s hs h1 p (by omega) hp)
  have e1 : nI 1000000 = nI (bB (bst (CS T K) s (lw s))) := by rw [e0]; rfl
  rw [e1]
  refine lp (fun f p (I4 : QI) => wX1_planFor_36 (nI s) (fun u10 u11 I12 => ((nI s = u10 → post I12) ∧ (¬ nI s = u10 → (wX1_guess (nI s) I12 (fun r13 => post (q_u2 I12 44 s (u11 + r13))))))) post f (nI (lw s)) (nI (bB (bst (CS T K) s p))) (nI p) I4) (fun p I4 => (∀ b, b ≠ 44 → b ≠ 45 → I4 b = I b) ∧ (∀ j, j ≠ s → I4 44 j = I 44 j ∧ I4 45 j = I 45 j) ∧ I4 44 s = nI 0 ∧ I4 45 s = nI (bQ s (bst (CS T K) s p))) s ?_ ?_ (lw s) (q_u2 (q_u2 I 44 s (nI 0)) 45 s (nI s)) hlw.2 ⟨fun b h1 h2 => by rw [nr_u2 h2, nr_u2 h1], fun j hj => ⟨by rw [nr_u2 (by omega), q_u2_j _ _ _ hj], by rw [q_u2_j _ _ _ hj, nr_u2 (by omega)]⟩, by rw [nr_u2 (by omega)]; exact q_u2_s _ _ _ _, by rw [e0]; exact q_u2_s _ _ _ _⟩
  · rintro f I4 ⟨hF, hj, e44, e45⟩
    have b9 := bB_le (c := CS T K) hwT (K := K) hs (Nat.le_refl s)
    have ce := CS_eq (T := T) (K := K) hs h1
    show wX1_planFor_36 _ _ _ _ _ _ _ _
    rw [wX1_planFor_36]
    simp (disch := omega) only [fa_lit, nI_ltI, nI_leI, nI_eq, nI_add, pk_mul, nI_clamp, vp_in_nI, l_uk, l_n1, l_n1e, l_n1e2, l_n1l, l_n1l2, l_n1l3, not_true_eq_false, not_false_eq_true, true_implies, false_implies, true_and, and_true, and_self, forall_eq, bI_t, bI_f, Bool.false_eq_true, or_true, true_or, or_false, false_or, s1_ltx, if_true, if_false, Nat.add_zero, Nat.zero_add,  d_leF, d_leT, d_ltF, d_ltT, d_eqF, d_eqT]
    refine ⟨fun e => ?_, fun e => ?_⟩
    · rw [if_pos e] at ce
      exact h I4 hF hj (by rw [ce]; exact e44) e45
    · rw [if_neg e] at ce
      refine p_guess hwT (K := K) ⟨by rw [hF 37 (by omega) (by omega)]; exact hK.1, fun v hv => ?_⟩ hw ⟨fun t ht => by rw [hF 42 (by omega) (by omega)]; exact hM.1 t ht, fun l hl => by rw [hF 43 (by omega) (by omega)]; exact hM.2 l hl⟩ hs ?_
      · rw [hF 38 (by omega) (by omega), hF 39 (by omega) (by omega), hF 40 (by omega) (by omega), hF 41 (by omega) (by omega)]
        exact hK.2 v hv
      · rw [nI_add, ← ce]
        refine h _ (fun b h1 h2 => by rw [nr_u2 h1]; exact hF b h1 h2) (fun j hj2 => ⟨by rw [q_u2_j _ _ _ hj2]; exact (hj j hj2).1, by rw [nr_u2 (by omega)]; exact (hj j hj2).2⟩) (q_u2_s _ _ _ _) (by rw [nr_u2 (by omega)]; exact e45)
  · rintro f p I4 hp ⟨hF, hj, e44, e45⟩ hk
    have b9 := bB_le (c := CS T K) hwT (K := K) hs (n := p) (by omega)
    have a1 := propext (f_and s hs p (by omega))
    have a2 := propext (f_and0 (lw s) (by omega) p (by omega))
    show wX1_planFor_36 _ _ _ _ _ _ _ _
    rw [wX1_planFor_36]
    cases e : isP s p
    · rw [bst_f e] at hk
      have hk2 := hk I4 ⟨hF, hj, e44, e45⟩
      rcases isP_f e with e2 | e2
      · simp (disch := omega) only [a1, e2, fa_lit, nI_ltI, nI_leI, nI_eq, nI_add, pk_mul, nI_clamp, vp_in_nI, l_uk, l_n1, l_n1e, l_n1e2, l_n1l, l_n1l2, l_n1l3, not_true_eq_false, not_false_eq_true, true_implies, false_implies, true_and, and_true, and_self, forall_eq, bI_t, bI_f, Bool.false_eq_true, or_true, true_or, or_false, false_or, s1_ltx, if_true, if_false, Nat.add_zero, Nat.zero_add,  d_leF, d_leT, d_ltF, d_ltT, d_eqF, d_eqT]
        exact hk2
      · simp (disch := omega) only [a1, a2, e2, fa_lit, nI_ltI, nI_leI, nI_eq, nI_add, pk_mul, nI_clamp, vp_in_nI, l_uk, l_n1, l_n1e, l_n1e2, l_n1l, l_n1l2, l_n1l3, not_true_eq_false, not_false_eq_true, true_implies, false_implies, true_and, and_true, and_self, forall_eq, bI_t, bI_f, Bool.false_eq_true, or_true, true_or, or_false, false_or, s1_ltx, if_true, if_false, Nat.add_zero, Nat.zero_add,  d_leF, d_leT, d_ltF, d_ltT, d_eqF, d_eqT]
        exact ⟨fun _ => hk2, fun _ => hk2⟩
    · obtain ⟨e2, e3⟩ := isP_t e
      obtain ⟨x1, x2, x3, x4⟩ := f_isP s hs p (by omega) e hp
      obtain ⟨c1, c2⟩ := hC p hp e
      rw [← (hj p (by omega)).1] at c1
      rw [← (hj (s ^^^ p) (by omega)).1] at c2
      have cl := cost_lt hwT (K := K) hs hp e
      rw [bst_t e cl] at hk
      have fx := f_xor s hs p (by omega)
      generalize hq : s ^^^ p = o at *
      simp (disch := omega) only [a1, a2, e2, e3, fx, c1, c2, fa_lit, nI_ltI, nI_leI, nI_eq, nI_add, pk_mul, nI_clamp, vp_in_nI, l_uk, l_n1, l_n1e, l_n1e2, l_n1l, l_n1l2, l_n1l3, not_true_eq_false, not_false_eq_true, true_implies, false_implies, true_and, and_true, and_self, forall_eq, bI_t, bI_f, Bool.false_eq_true, or_true, true_or, or_false, false_or, s1_ltx, if_true, if_false, Nat.add_zero, Nat.zero_add,  d_leF, d_leT, d_ltF, d_ltT, d_eqF, d_eqT]
      by_cases e5 : CS T K p + CS T K o < bB (bst (CS T K) s p)
      · rw [if_pos e5] at hk
        simp (disch := omega) only [fa_lit, nI_ltI, nI_leI, nI_eq, nI_add, pk_mul, nI_clamp, vp_in_nI, l_uk, l_n1, l_n1e, l_n1e2, l_n1l, l_n1l2, l_n1l3, not_true_eq_false, not_false_eq_true, true_implies, false_implies, true_and, and_true, and_self, forall_eq, bI_t, bI_f, Bool.false_eq_true, or_true, true_or, or_false, false_or, s1_ltx, if_true, if_false, Nat.add_zero, Nat.zero_add,  d_leF, d_leT, d_ltF, d_ltT, d_eqF, d_eqT]
        refine hk _ ⟨fun b h1 h2 => by rw [nr_u2 h2]; exact hF b h1 h2, fun j hj2 => ⟨by rw [nr_u2 (by omega)]; exact (hj j hj2).1, by rw [q_u2_j _ _ _ hj2]; exact (hj j hj2).2⟩, by rw [nr_u2 (by omega)]; exact e44, q_u2_s _ _ _ _⟩
      · rw [if_neg e5] at hk
        simp (disch := omega) only [fa_lit, nI_ltI, nI_leI, nI_eq, nI_add, pk_mul, nI_clamp, vp_in_nI, l_uk, l_n1, l_n1e, l_n1e2, l_n1l, l_n1l2, l_n1l3, not_true_eq_false, not_false_eq_true, true_implies, false_implies, true_and, and_true, and_self, forall_eq, bI_t, bI_f, Bool.false_eq_true, or_true, true_or, or_false, false_or, s1_ltx, if_true, if_false, Nat.add_zero, Nat.zero_add,  d_leF, d_leT, d_ltF, d_ltT, d_eqF, d_eqT]
        exact hk I4 ⟨hF, hj, e44, e45⟩
theorem p_planUpTo {post : QI → Prop} (hT : Tc I T) (hwT : Tw T) (hK : Kc I K) (hw : Kw T K) (hs : s < 16) (h1 : 1 ≤ s) (h : ∀ I2 : QI, (∀ b, b < 42 ∨ 46 ≤ b → I2 b = I b) → I2 44 s = nI (CS T K s) → I2 45 s = nI (SP T K s) → post I2) : wX1_planUpTo (nI s) I post := by
  unfold wX1_planUpTo
  refine p_measure hT hwT hK hw (fun I1 hF1 hM1 => ?_)
  have es : s &&& s = s := Nat.and_self s
  refine lp (fun f w (I2 : QI) => wX1_planUpTo_6 (nI s) post f (nI w) I2) (fun w I2 => 1 ≤ w ∧ (∀ b, b ≠ 44 → b ≠ 45 → I2 b = I1 b) ∧ ∀ p, 1 ≤ p → p < w → p &&& s = p → I2 44 p = nI (CS T K p) ∧ I2 45 p = nI (SP T K p)) (s + 1) ?_ ?_ 1 I1 (by omega) ⟨Nat.le_refl _, fun _ _ _ => rfl, fun p h2 h3 => by omega⟩
  · rintro f I2 ⟨w1, hF, hp⟩
    show wX1_planUpTo_6 _ _ _ _ _
    rw [wX1_planUpTo_6]
    simp (disch := omega) only [fa_lit, nI_ltI, nI_leI, nI_eq, nI_add, pk_mul, nI_clamp, vp_in_nI, l_uk, l_n1, l_n1e, l_n1e2, l_n1l, l_n1l2, l_n1l3, not_true_eq_false, not_false_eq_true, true_implies, false_implies, true_and, and_true, and_self, forall_eq, bI_t, bI_f, Bool.false_eq_true, or_true, true_or, or_false, false_or, s1_ltx, if_true, if_false, Nat.add_zero, Nat.zero_add,  d_leF, d_leT, d_ltF, d_ltT, d_eqF, d_eqT]
    obtain ⟨a, b⟩ := hp s h1 (by omega) es
    exact h I2 (fun b hb => by rw [hF b (by omega) (by omega), hF1 b (by omega) (by omega)]) a b
  · rintro f w I2 hws ⟨w1, hF, hp⟩ hk
    have a1 := propext (f_and s hs w (by omega))
    show wX1_planUpTo_6 _ _ _ _ _
    rw [wX1_planUpTo_6]
    by_cases e : w &&& s = w
    · simp (disch := omega) only [a1, e, fa_lit, nI_ltI, nI_leI, nI_eq, nI_add, pk_mul, nI_clamp, vp_in_nI, l_uk, l_n1, l_n1e, l_n1e2, l_n1l, l_n1l2, l_n1l3, not_true_eq_false, not_false_eq_true, true_implies, false_implies, true_and, and_true, and_self, forall_eq, bI_t, bI_f, Bool.false_eq_true, or_true, true_or, or_false, false_or, s1_ltx, if_true, if_false, Nat.add_zero, Nat.zero_add,  d_leF, d_leT, d_ltF, d_ltT, d_eqF, d_eqT]
      have hF9 : ∀ b, b < 42 → I2 b = I b := fun b hb => by rw [hF b (by omega) (by omega), hF1 b (by omega) (by omega)]
      refine p_planFor hwT (K := K) ⟨by rw [hF9 37 (by omega)]; exact hK.1, fun v hv => ?_⟩ hw ⟨fun t ht => by rw [hF 42 (by omega) (by omega)]; exact hM1.1 t ht, fun l hl => by rw [hF 43 (by omega) (by omega)]; exact hM1.2 l hl⟩ (by omega) w1 (fun p hp2 e2 => ?_) (fun I3 hF3 hj3 e44 e45 => ?_)
      · rw [hF9 38 (by omega), hF9 39 (by omega), hF9 40 (by omega), hF9 41 (by omega)]
        exact hK.2 v hv
      · obtain ⟨x1, x2, x3, x4⟩ := f_isP w (by omega) p (by omega) e2 hp2
        obtain ⟨y1, y2⟩ := f_sub s hs w (by omega) p (by omega) e (isP_t e2).1
        exact ⟨(hp p (by omega) hp2 y1).1, (hp _ (by omega) x1 y2).1⟩
      · refine hk I3 ⟨by omega, fun b h1 h2 => by rw [hF3 b h1 h2]; exact hF b h1 h2, fun p h2 h3 h4 => ?_⟩
        by_cases e3 : p = w
        · subst e3
          exact ⟨e44, e45⟩
        · rw [(hj3 p e3).1, (hj3 p e3).2]
          exact hp p h2 (by omega) h4
    · simp (disch := omega) only [a1, e, fa_lit, nI_ltI, nI_leI, nI_eq, nI_add, pk_mul, nI_clamp, vp_in_nI, l_uk, l_n1, l_n1e, l_n1e2, l_n1l, l_n1l2, l_n1l3, not_true_eq_false, not_false_eq_true, true_implies, false_implies, true_and, and_true, and_self, forall_eq, bI_t, bI_f, Bool.false_eq_true, or_true, true_or, or_false, false_or, s1_ltx, if_true, if_false, Nat.add_zero, Nat.zero_add,  d_leF, d_leT, d_ltF, d_ltT, d_eqF, d_eqT]
      refine hk I2 ⟨by omega, hF, fun p h2 h3 h4 => ?_⟩
      by_cases e3 : p = w
      · subst e3
        exact absurd h4 e
      · exact hp p h2 (by omega) h4
end PP
