/-! pure: the class works out what it is asked for, and compares -/
theorem OKc_cg {I I2 : QI} {T : QT} {P : List Nd} {m : Nat} (h : OKc I T P m) (hw6 : (nd P m).2.2.2.2.2.2 ≤ 6) (h1 : ∀ j, m * 1200 ≤ j → j < (m + 1) * 1200 → I2 24 j = I 24 j) (h2 : I2 25 m = I 25 m) (h3 : I2 26 m = I 26 m) : OKc I2 T P m := by
  cases e : EV T P m with
  | none => exact OKc.mn e (h2.trans (h.n e))
  | some L =>
    obtain ⟨x, y⟩ := h.s e
    refine OKc.ms e ⟨h2.trans x.1, x.2.1, fun r hr h9 => ?_⟩ (h3.trans y)
    rw [x.2.2 r hr h9]
    exact rowAt_eq.mpr (fun c hc => (h1 _ (by omega) (by omega)).symm)
/-- the class's cache: what counts as up to date is right, and no count is ahead of the changes -/
def Ca (I : QI) (T : QT) (P : List Nd) (ch : Nat) : Prop := I 1 2 = nI ch ∧ ∀ m, m < 24 → (∃ k, k ≤ ch ∧ I 27 m = nI k) ∧ (I 27 m = nI ch → m < P.length ∧ OKc I T P m)
theorem min_3 {c sa sb : Nat} {p q : Prop} [Decidable p] [Decidable q] : min (c + (if p then 0 else min sa 100001) + (if q then 0 else min sb 100001)) 100001 = min (c + (if p then 0 else sa) + (if q then 0 else sb)) 100001 := by
  split <;> split <;> omega
theorem p_poss1 {I : QI} {T : QT} {P : List Nd} (hT : Tc I T) (hwT : Tw T) (hP : Pc I P) (hw : Pw T P) {n : Nat} (hn : n < P.length) (hA : (nd P n).1 ≠ 0 → OKc I T P (nd P n).2.1) (hB : (nd P n).2.2.1 ≠ 0 → OKc I T P ((nd P n).2.2.1 - 1)) (h0 : I 25 n = nI 0) {post : QI → Prop} (h : ∀ I2, (∀ b, b ≠ 24 → b ≠ 25 → b ≠ 26 → b ≠ 29 → I2 b = I b) → (∀ j, j < n * 1200 ∨ n * 1200 + 1200 ≤ j → I2 24 j = I 24 j) → (∀ m, m ≠ n → I2 25 m = I 25 m ∧ I2 26 m = I 26 m) → OKc I2 T P n → post I2) : wX0_arePartsPossible (nI n) I (fun r7 => ((r7 = 0 → (wX0_finish (nI n) 0 I post)) ∧ (¬ r7 = 0 → (wX0_fill (nI n) I (fun r11 I10 => ((r11 = 0 → (wX0_finish (nI n) 0 I10 post)) ∧ (¬ r11 = 0 → (wX0_finish (nI n) 1 I10 post)))))))) := by
  have h24 := hw.1
  have hab := (hw.2 n hn).ab
  have wn6 := (hw.2 n hn).1.2.2.2.2.2.2
  have f0 : ∀ I2, FA n I I2 → EV T P n = none → wX0_finish (nI n) (nI 0) I2 post := by
    intro I2 hF hE
    refine p_finish0 (hF.pc hP) hw hn (fun x => ?_)
    refine h _ (fun b h1 h2 h3 h4 => ?_) (fun j hj => ?_) (fun m hm => ⟨?_, ?_⟩) (OKc.mn hE ?_)
    · rw [nr_u2 h3, nr_u2 h2]
      exact hF.1 b h1 h2 h4
    · rw [nr_u2 (by clear hj; omega), nr_u2 (by clear hj; omega)]
      exact hF.2.1 j hj
    · rw [nr_u2 (by omega), q_u2_j _ _ _ hm]
      exact hF.2.2 m hm
    · rw [q_u2_j _ _ _ hm, nr_u2 (by omega)]
      rw [hF.1 26 (by omega) (by omega) (by omega)]
    · rw [nr_u2 (by omega)]
      exact q_u2_s _ _ _ _
  refine p_arePartsPossible hP hw hn hA hB (fun A B eA eB => ?_) (fun hno => ?_)
  · refine ⟨fun z => absurd z (by decide), fun _ => ?_⟩
    have hA2 : (nd P n).1 ≠ 0 → Hd I (nd P n).2.1 A (nd P (nd P n).2.1).2.2.2.2.2.2 ∧ I 26 (nd P n).2.1 = nI (min (ST T P (nd P n).2.1) 100001) := by
      intro e
      have : EV T P (nd P n).2.1 = some A := by rw [← eA]; exact (if_neg e).symm
      exact (hA e).s this
    have hB2 : (nd P n).2.2.1 ≠ 0 → Hd I ((nd P n).2.2.1 - 1) B (nd P ((nd P n).2.2.1 - 1)).2.2.2.2.2.2 ∧ I 26 ((nd P n).2.2.1 - 1) = nI (min (ST T P ((nd P n).2.2.1 - 1)) 100001) := by
      intro e
      have : EV T P ((nd P n).2.2.1 - 1) = some B := by rw [← eB]; exact (if_neg e).symm
      exact (hB e).s this
    refine p_fill hT hwT hP hw hn (fun e => (hA2 e).1) (fun e => (hB2 e).1) ⟨h0, Nat.zero_le _, fun r hr => absurd hr (Nat.not_lt_zero r)⟩ (fun I2 hF hH => ?_) (fun hl I2 hF => ?_)
    · have hE : EV T P n = some (FL T P n A B) := EV_mk hw hn eA eB hH.2.1
      have hST := ST_eq hw hn
      rw [hE] at hST
      refine ⟨fun z => absurd z (by decide), fun _ => ?_⟩
      have e26 : I2 26 = I 26 := hF.1 26 (by omega) (by omega) (by omega)
      refine p_finish1 (hF.pc hP) hw hn hH.1 hH.2.1 (fun e => by rw [e26]; exact (hA2 e).2) (fun e => by rw [e26]; exact (hB2 e).2) (by omega) (by omega) ?_
      refine h _ (fun b h1 h2 h3 h4 => ?_) (fun j hj => ?_) (fun m hm => ⟨?_, ?_⟩) (OKc.ms hE ?_ ?_)
      · rw [nr_u2 h3]
        exact hF.1 b h1 h2 h4
      · rw [nr_u2 (by clear hj; omega)]
        exact hF.2.1 j hj
      · rw [nr_u2 (by omega)]
        exact hF.2.2 m hm
      · rw [q_u2_j _ _ _ hm, e26]
      · exact ⟨by rw [nr_u2 (by omega)]; exact hH.1, hH.2.1, by rw [nr_u2 (show (24 : Nat) ≠ 26 by omega)]; exact hH.2.2⟩
      · rw [q_u2_s, min_3, hST]
        rfl
    · have hE : EV T P n = none := EV_no hw hn eA eB hl
      exact ⟨fun _ => f0 I2 hF hE, fun z => absurd rfl z⟩
  · have hE : EV T P n = none := EV_nA hw hn hno
    exact ⟨fun _ => f0 I (FA.rf _ _) hE, fun z => absurd rfl z⟩
def psb (T : QT) (P : List Nd) (n bu : Nat) : Bool := (EV T P n).isSome && decide (ST T P n ≤ bu)
theorem p_isPossible {I : QI} {T : QT} {P : List Nd} {ch : Nat} (hT : Tc I T) (hwT : Tw T) (hP : Pc I P) (hw : Pw T P) (hC : Ca I T P ch) (hch : ch < 2 ^ 30) {n bu : Nat} (hn : n < P.length) (hbu : bu ≤ 100000) {post : Int32 → QI → Prop} (h : ∀ I2, (∀ b, b < 24 ∨ 30 ≤ b → I2 b = I b) → Ca I2 T P ch → OKc I2 T P n → I2 27 n = nI ch → post (bI (psb T P n bu)) I2) : wX0_isPossible (nI n) (nI bu) I post := by
  have h24 := hw.1
  unfold wX0_isPossible
  refine p_has hP hw hn ⟨fun _ => ?_, fun z => absurd z (by decide)⟩
  refine p_markWanted hP hw hn (fun I1 W hF1 hW hi => ?_)
  obtain ⟨w1, w2, w3, w4⟩ := hi
  have c12 : I 1 2 = nI ch := hC.1
  unfold Wq at w3 w4
  rw [c12] at w2 w3 w4
  have hC1 : ∀ m, m < 24 → I1 27 m = I 27 m := fun m _ => by rw [hF1 27 (by omega)]
  refine lp (fun f i (I2 : QI) => wX0_isPossible_20 (nI n) (nI bu) _ post f (nI i) I2) (fun i I2 => (∀ b, b ≠ 24 → b ≠ 25 → b ≠ 26 → b ≠ 27 → b ≠ 29 → I2 b = I1 b) ∧ (∀ m, m < 24 → ((m < i ∧ W m = true) → I2 27 m = nI ch) ∧ (¬ (m < i ∧ W m = true) → I2 27 m = I 27 m)) ∧ ∀ m, m < P.length → (I 27 m = nI ch ∨ (m < i ∧ W m = true)) → OKc I2 T P m) (n + 1) ?_ ?_ 0 I1 (Nat.zero_le _) ⟨fun _ _ _ _ _ _ => rfl, fun m hm => ⟨fun z => absurd z.1 (Nat.not_lt_zero m), fun _ => hC1 m hm⟩, fun m hm z => ?_⟩
  · rintro f I2 ⟨hF, h27, hO⟩
    have on : OKc I2 T P n := hO n hn (w4.elim (fun z => Or.inr ⟨Nat.lt_succ_self n, z⟩) (fun z => Or.inl z.2))
    have n27 : I2 27 n = nI ch := by
      by_cases e : n < n + 1 ∧ W n = true
      · exact (h27 n (by omega)).1 e
      · rw [(h27 n (by omega)).2 e]
        rcases w4 with z | z
        · exact absurd ⟨Nat.lt_succ_self n, z⟩ e
        · exact z.2
    have hfin : post (bI (psb T P n bu)) I2 := by
      refine h I2 (fun b hb => ?_) ⟨?_, fun m hm => ⟨?_, fun e => ?_⟩⟩ on n27
      · rw [hF b (by omega) (by omega) (by omega) (by omega) (by omega), hF1 b (by omega)]
      · rw [hF 1 (by omega) (by omega) (by omega) (by omega) (by omega), hF1 1 (by omega)]
        exact c12
      · by_cases e : m < n + 1 ∧ W m = true
        · exact ⟨ch, Nat.le_refl _, (h27 m hm).1 e⟩
        · rw [(h27 m hm).2 e]
          exact (hC.2 m hm).1
      · by_cases e2 : m < n + 1 ∧ W m = true
        · exact ⟨by omega, hO m (by omega) (Or.inr e2)⟩
        · rw [(h27 m hm).2 e2] at e
          have := ((hC.2 m hm).2 e).1
          exact ⟨this, hO m this (Or.inl e)⟩
    show wX0_isPossible_20 _ _ _ _ _ _ _
    rw [wX0_isPossible_20]
    have e5 : nI n < nI (n + 1) := (nI_ltI (by omega) (by omega)).mpr (by omega)
    refine ⟨fun _ => p_countOf (by omega) ?_, fun z => absurd e5 z⟩
    unfold psb at hfin
    cases eV : EV T P n with
    | none =>
      rw [eV] at hfin
      rw [on.n eV]
      exact ⟨fun _ => hfin, fun z => absurd rfl z⟩
    | some L =>
      rw [eV] at hfin
      obtain ⟨x, y⟩ := on.s eV
      have x2 := x.2.1
      rw [x.1]
      simp (disch := omega) only [fa_lit, nI_ltI, nI_leI, nI_eq, nI_add, pk_mul, nI_clamp, vp_in_nI, l_uk, l_n1, l_n1e, l_n1e2, l_n1l, l_n1l2, l_n1l3, not_true_eq_false, not_false_eq_true, true_implies, false_implies, true_and, and_true, and_self, forall_eq, bI_t, bI_f, Bool.false_eq_true, or_true, true_or, or_false, false_or, s1_ltx, if_true, if_false, Nat.add_zero, Nat.zero_add,  d_leF, d_leT, d_ltF, d_ltT, d_eqF, d_eqT]
      refine p_stepsOf (by omega) ?_
      rw [y]
      simp (disch := omega) only [fa_lit, nI_ltI, nI_leI, nI_eq, nI_add, pk_mul, nI_clamp, vp_in_nI, l_uk, l_n1, l_n1e, l_n1e2, l_n1l, l_n1l2, l_n1l3, not_true_eq_false, not_false_eq_true, true_implies, false_implies, true_and, and_true, and_self, forall_eq, bI_t, bI_f, Bool.false_eq_true, or_true, true_or, or_false, false_or, s1_ltx, if_true, if_false, Nat.add_zero, Nat.zero_add,  d_leF, d_leT, d_ltF, d_ltT, d_eqF, d_eqT]
      by_cases e6 : ST T P n ≤ bu
      · rw [decide_eq_true e6] at hfin
        exact ⟨fun z => by omega, fun _ => hfin⟩
      · rw [decide_eq_false e6] at hfin
        exact ⟨fun _ => hfin, fun z => by omega⟩
  · rintro f i I2 hi2 ⟨hF, h27, hO⟩ hk
    have hP2 : Pc I2 P := Pc_fr hP (fun b h1 h2 => by rw [hF b (by omega) (by omega) (by omega) (by omega) (by omega), hF1 b (by omega)])
    have hT2 : Tc I2 T := Tc_fr hT (fun b h1 => by rw [hF b (by omega) (by omega) (by omega) (by omega) (by omega), hF1 b (by omega)])
    have e28 : I2 28 i = bI (W i) := by
      rw [hF 28 (by omega) (by omega) (by omega) (by omega) (by omega)]
      exact hW i (by omega)
    have e12 : I2 1 2 = nI ch := by
      rw [hF 1 (by omega) (by omega) (by omega) (by omega) (by omega), hF1 1 (by omega)]
      exact c12
    show wX0_isPossible_20 _ _ _ _ _ _ _
    rw [wX0_isPossible_20]
    cases e : W i
    · rw [e] at e28
      simp (disch := omega) only [e28, fa_lit, nI_ltI, nI_leI, nI_eq, nI_add, pk_mul, nI_clamp, vp_in_nI, l_uk, l_n1, l_n1e, l_n1e2, l_n1l, l_n1l2, l_n1l3, not_true_eq_false, not_false_eq_true, true_implies, false_implies, true_and, and_true, and_self, forall_eq, bI_t, bI_f, Bool.false_eq_true, or_true, true_or, or_false, false_or, s1_ltx, if_true, if_false, Nat.add_zero, Nat.zero_add,  d_leF, d_leT, d_ltF, d_ltT, d_eqF, d_eqT]
      refine hk I2 ⟨hF, fun m hm => ⟨fun z => (h27 m hm).1 ⟨?_, z.2⟩, fun z => (h27 m hm).2 (fun z2 => z ⟨by omega, z2.2⟩)⟩, fun m hm z => hO m hm (z.elim Or.inl (fun z => Or.inr ⟨?_, z.2⟩))⟩
      · by_cases e2 : m = i
        · subst e2
          rw [e] at z
          cases z.2
        · omega
      · by_cases e2 : m = i
        · subst e2
          rw [e] at z
          cases z.2
        · omega
    · rw [e] at e28
      have hab := (hw.2 i (by omega)).ab
      unfold wX4_changes
      simp (disch := omega) only [e28, e12, q_u2_s, ne_u2, nr_u2, fa_lit, nI_ltI, nI_leI, nI_eq, nI_add, pk_mul, nI_clamp, vp_in_nI, l_uk, l_n1, l_n1e, l_n1e2, l_n1l, l_n1l2, l_n1l3, not_true_eq_false, not_false_eq_true, true_implies, false_implies, true_and, and_true, and_self, forall_eq, bI_t, bI_f, Bool.false_eq_true, or_true, true_or, or_false, false_or, s1_ltx, if_true, if_false, Nat.add_zero, Nat.zero_add,  d_leF, d_leT, d_ltF, d_ltT, d_eqF, d_eqT]
      have hO6 : ∀ m, m < P.length → m ≠ i → (I 27 m = nI ch ∨ (m < i ∧ W m = true)) → OKc (q_u2 (q_u2 I2 27 i (nI ch)) 25 i (nI 0)) T P m := by
        intro m hm hmi z
        refine OKc_cg (hO m hm z) (hw.2 m hm).1.2.2.2.2.2.2 (fun j _ _ => ?_) ?_ ?_
        · rw [nr_u2 (by omega), nr_u2 (by omega)]
        · rw [q_u2_j _ _ _ hmi, nr_u2 (by omega)]
        · rw [nr_u2 (by omega), nr_u2 (by omega)]
      refine p_poss1 (Tc_fr hT2 (fun b hb => by rw [nr_u2 (by omega), nr_u2 (by omega)])) hwT (Pc_fr hP2 (fun b h1 h2 => by rw [nr_u2 (by omega), nr_u2 (by omega)])) hw (by omega) (fun es => ?_) (fun es => ?_) (q_u2_s _ _ _ _) (fun I3 g1 g2 g3 g4 => ?_)
      · have ha := hab.1 es
        refine hO6 _ (by omega) (by omega) ?_
        rcases (w3 i (Nat.zero_le _) (by omega) e).1 es with z | z
        · exact Or.inr ⟨ha, z⟩
        · exact Or.inl z.2
      · have hb := hab.2 es
        refine hO6 _ (by omega) (by omega) ?_
        rcases (w3 i (Nat.zero_le _) (by omega) e).2 es with z | z
        · exact Or.inr ⟨hb, z⟩
        · exact Or.inl z.2
      · have i27 : I3 27 = (q_u2 (q_u2 I2 27 i (nI ch)) 25 i (nI 0)) 27 := g1 27 (by omega) (by omega) (by omega) (by omega)
        refine hk I3 ⟨fun b h1 h2 h3 h4 h5 => ?_, fun m hm => ⟨fun z => ?_, fun z => ?_⟩, fun m hm z => ?_⟩
        · rw [g1 b h1 h2 h3 h5, nr_u2 h2, nr_u2 h4]
          exact hF b h1 h2 h3 h4 h5
        · rw [i27, nr_u2 (by omega)]
          by_cases e2 : m = i
          · subst e2
            exact q_u2_s _ _ _ _
          · rw [q_u2_j _ _ _ e2]
            exact (h27 m hm).1 ⟨by omega, z.2⟩
        · have e2 : m ≠ i := fun e2 => z ⟨by omega, by rw [e2]; exact e⟩
          rw [i27, nr_u2 (by omega), q_u2_j _ _ _ e2]
          exact (h27 m hm).2 (fun z2 => z ⟨by omega, z2.2⟩)
        · by_cases e2 : m = i
          · subst e2
            exact g4
          · refine OKc_cg (hO6 m hm e2 (z.elim Or.inl (fun z => Or.inr ⟨by omega, z.2⟩))) (hw.2 m hm).1.2.2.2.2.2.2 (fun j h1 h2 => g2 j ?_) (g3 m e2).1 (g3 m e2).2
            rcases Nat.lt_or_gt_of_ne e2 with h3 | h3
            · rw [Nat.succ_mul] at h2
              exact Or.inl (Nat.lt_of_lt_of_le h2 (reg_lt h3))
            · exact Or.inr (Nat.le_trans (reg_lt h3) h1)
  · rcases z with z | z
    · refine OKc_cg ((hC.2 m (by omega)).2 z).2 (hw.2 m hm).1.2.2.2.2.2.2 (fun j _ _ => ?_) ?_ ?_
      · rw [hF1 24 (by omega)]
      · rw [hF1 25 (by omega)]
      · rw [hF1 26 (by omega)]
    · exact absurd z.1 (Nat.not_lt_zero m)
def er : List (List Int32) → List (List Int32) → Option (List (List Int32))
  | A, [] => some A
  | A, b :: bs => if b ∈ A then er (A.erase b) bs else none
theorem er_iff : ∀ (B A : List (List Int32)), A.length = B.length → ((er A B).isSome = true ↔ B.Perm A)
  | [], A, h => by
    have : A = [] := List.length_eq_zero_iff.mp h
    subst this
    simp [er]
  | b :: bs, A, h => by
    rw [er]
    by_cases e : b ∈ A
    · rw [if_pos e, List.cons_perm_iff_perm_erase, er_iff bs (A.erase b) (by rw [List.length_erase_of_mem e, h]; rfl)]
      exact ⟨fun z => ⟨e, z⟩, fun z => z.2⟩
    · rw [if_neg e, List.cons_perm_iff_perm_erase]
      exact ⟨fun z => (by cases z), fun z => absurd z.1 e⟩
theorem er_sym {A B : List (List Int32)} (h : A.length = B.length) : (er A B).isSome = (er B A).isSome := by
  have h1 := er_iff B A h
  have h2 := er_iff A B h.symm
  have h3 : (er A B).isSome = true ↔ (er B A).isSome = true := ⟨fun z => h2.mpr (h1.mp z).symm, fun z => h1.mpr (h2.mp z).symm⟩
  cases e1 : (er A B).isSome <;> cases e2 : (er B A).isSome <;> simp_all
/-- what isn't marked, of the first n -/
def um (A : List (List Int32)) (G : Nat → Bool) : Nat → List (List Int32)
  | 0 => []
  | n + 1 => if G n then um A G n else um A G n ++ [A.getD n []]
theorem um_cong {A : List (List Int32)} {G H : Nat → Bool} : ∀ {n : Nat}, (∀ k, k < n → G k = H k) → um A G n = um A H n
  | 0, _ => rfl
  | n + 1, h => by rw [um, um, um_cong (fun k hk => h k (by omega)), h n (by omega)]
theorem um_all {A : List (List Int32)} : ∀ n, n ≤ A.length → um A (fun _ => false) n = A.take n
  | 0, _ => (List.take_zero).symm
  | n + 1, h => by
    rw [um, um_all n (by omega), getD_take (by omega)]
    rfl
theorem um_srch {A : List (List Int32)} {x : List Int32} {G : Nat → Bool} : ∀ n, (srch (fun r => !G r && decide (A.getD r [] = x)) n = none → ¬ x ∈ um A G n) ∧ ∀ i, srch (fun r => !G r && decide (A.getD r [] = x)) n = some i → x ∈ um A G n ∧ um A (fun k => if k = i then true else G k) n = (um A G n).erase x
  | 0 => ⟨fun _ h => (by cases h), fun i h => (by cases h)⟩
  | n + 1 => by
    obtain ⟨h1, h2⟩ := um_srch (A := A) (x := x) (G := G) n
    constructor
    · intro h
      have hp := srch_ni h n (by omega)
      have hs : srch (fun r => !G r && decide (A.getD r [] = x)) n = none := srch_n (fun k hk => srch_ni h k (by omega))
      rw [um]
      cases e : G n
      · rw [e] at hp
        intro hm
        rcases List.mem_append.mp hm with z | z
        · exact h1 hs z
        · have : x = A.getD n [] := List.mem_singleton.mp z
          rw [this] at hp
          simp at hp
      · exact h1 hs
    · intro i h
      obtain ⟨a, b, c⟩ := srch_si h
      rw [um, um]
      by_cases e : i = n
      · subst e
        have hs : srch (fun r => !G r && decide (A.getD r [] = x)) i = none := srch_n c
        simp only [Bool.and_eq_true, decide_eq_true_eq, Bool.not_eq_true'] at b
        rw [if_pos rfl, if_neg (by rw [b.1]; decide), b.2, um_cong (H := G) (fun k hk => if_neg (by omega))]
        refine ⟨List.mem_append.mpr (Or.inr (List.mem_singleton.mpr rfl)), ?_⟩
        rw [List.erase_append_right _ (h1 hs)]
        simp
      · have hs : srch (fun r => !G r && decide (A.getD r [] = x)) n = some i := srch_i b c (by omega)
        obtain ⟨m, e2⟩ := h2 i hs
        rw [if_neg (show ¬ n = i by omega), e2]
        cases e3 : G n
        · exact ⟨List.mem_append.mpr (Or.inl m), (List.erase_append_left _ m).symm⟩
        · exact ⟨m, rfl⟩
theorem p_haveSameRows {I : QI} {T : QT} {P : List Nd} (hP : Pc I P) (hw : Pw T P) {n m : Nat} {A B : List (List Int32)} (hn : n < P.length) (hm : m < P.length) (hA : Hd I n A (nd P n).2.2.2.2.2.2) (hB : Hd I m B (nd P m).2.2.2.2.2.2) {post : Int32 → QI → Prop} (h : ∀ I2, (∀ b, b ≠ 29 → I2 b = I b) → post (bI (decide ((nd P n).2.2.2.2.2.2 = (nd P m).2.2.2.2.2.2 ∧ A.length = B.length) && (er A B).isSome)) I2) : wX0_haveSameRows (nI n) (nI m) I post := by
  have h24 := hw.1
  have wn6 := (hw.2 n hn).1.2.2.2.2.2.2
  have wm6 := (hw.2 m hm).1.2.2.2.2.2.2
  have hA2 := hA.2.1
  have hB2 := hB.2.1
  unfold wX0_haveSameRows
  refine p_widthOf hP hw hn (p_widthOf hP hw hm ?_)
  refine ⟨fun e => ?_, fun e => ?_⟩
  · rw [decide_eq_false (fun z => e (by rw [z.1]))] at h
    exact h I (fun _ _ => rfl)
  · rw [nI_eq (by omega) (by omega)] at e
    refine p_countOf (by omega) (p_countOf (by omega) ?_)
    rw [hA.1, hB.1]
    refine ⟨fun e2 => ?_, fun e2 => ?_⟩
    · rw [nI_eq (by omega) (by omega)] at e2
      rw [decide_eq_true ⟨e, e2⟩, Bool.true_and] at h
      refine p_clearGone (fun I2 hF hG => ?_)
      refine lp (fun f j (I3 : QI) => wX0_haveSameRows_40 (nI n) (nI m) post f (nI j) I3) (fun j I3 => (∀ b, b ≠ 29 → I3 b = I b) ∧ ∃ G : Nat → Bool, (∀ k, k < 200 → I3 29 k = bI (G k)) ∧ er A B = er (um A G A.length) (B.drop j)) B.length ?_ ?_ 0 I2 (Nat.zero_le _) ⟨hF, fun _ => false, hG, by rw [um_all _ (Nat.le_refl _), List.take_length, List.drop_zero]⟩
      · rintro f I3 ⟨hF3, G, hG3, he⟩
        rw [List.drop_length, er] at he
        rw [he] at h
        show wX0_haveSameRows_40 _ _ _ _ _ _
        rw [wX0_haveSameRows_40]
        refine p_countOf (by omega) ?_
        rw [(hB.one hF3).1]
        simp (disch := omega) only [fa_lit, nI_ltI, nI_leI, nI_eq, nI_add, pk_mul, nI_clamp, vp_in_nI, l_uk, l_n1, l_n1e, l_n1e2, l_n1l, l_n1l2, l_n1l3, not_true_eq_false, not_false_eq_true, true_implies, false_implies, true_and, and_true, and_self, forall_eq, bI_t, bI_f, Bool.false_eq_true, or_true, true_or, or_false, false_or, s1_ltx, if_true, if_false, Nat.add_zero, Nat.zero_add,  d_leF, d_leT, d_ltF, d_ltT, d_eqF, d_eqT]
        exact h I3 hF3
      · rintro f j I3 hj ⟨hF3, G, hG3, he⟩ hk
        have hP3 : Pc I3 P := (FA.one (n := n) hF3).pc hP
        show wX0_haveSameRows_40 _ _ _ _ _ _
        rw [wX0_haveSameRows_40]
        refine p_countOf (by omega) ?_
        rw [(hB.one hF3).1]
        simp (disch := omega) only [fa_lit, nI_ltI, nI_leI, nI_eq, nI_add, pk_mul, nI_clamp, vp_in_nI, l_uk, l_n1, l_n1e, l_n1e2, l_n1l, l_n1l2, l_n1l3, not_true_eq_false, not_false_eq_true, true_implies, false_implies, true_and, and_true, and_self, forall_eq, bI_t, bI_f, Bool.false_eq_true, or_true, true_or, or_false, false_or, s1_ltx, if_true, if_false, Nat.add_zero, Nat.zero_add,  d_leF, d_leT, d_ltF, d_ltT, d_eqF, d_eqT]
        have hd : B.drop j = B.getD j [] :: B.drop (j + 1) := by
          rw [List.drop_eq_getElem_cons hj, List.getD_eq_getElem?_getD, List.getElem?_eq_getElem hj]
          rfl
        rw [hd, er] at he
        have hu := um_srch (A := A) (x := B.getD j []) (G := G) A.length
        rw [e] at hA
        refine p_takeAway hP3 hw hn (by omega) (hA.one hF3) (hB.one hF3) e (by omega) hj hG3 (fun i hi e3 => ?_) (fun e3 => ?_)
        · obtain ⟨u1, u2⟩ := hu.2 i e3
          rw [if_pos u1, ← u2] at he
          simp (disch := omega) only [fa_lit, nI_ltI, nI_leI, nI_eq, nI_add, pk_mul, nI_clamp, vp_in_nI, l_uk, l_n1, l_n1e, l_n1e2, l_n1l, l_n1l2, l_n1l3, not_true_eq_false, not_false_eq_true, true_implies, false_implies, true_and, and_true, and_self, forall_eq, bI_t, bI_f, Bool.false_eq_true, or_true, true_or, or_false, false_or, s1_ltx, if_true, if_false, Nat.add_zero, Nat.zero_add,  d_leF, d_leT, d_ltF, d_ltT, d_eqF, d_eqT]
          exact hk _ ⟨fr_u2 hF3, _, ar_u2 (x := true) hG3, he⟩
        · rw [if_neg (hu.1 e3)] at he
          rw [he] at h
          simp (disch := omega) only [fa_lit, nI_ltI, nI_leI, nI_eq, nI_add, pk_mul, nI_clamp, vp_in_nI, l_uk, l_n1, l_n1e, l_n1e2, l_n1l, l_n1l2, l_n1l3, not_true_eq_false, not_false_eq_true, true_implies, false_implies, true_and, and_true, and_self, forall_eq, bI_t, bI_f, Bool.false_eq_true, or_true, true_or, or_false, false_or, s1_ltx, if_true, if_false, Nat.add_zero, Nat.zero_add,  d_leF, d_leT, d_ltF, d_ltT, d_eqF, d_eqT]
          exact h I3 hF3
    · rw [decide_eq_false (fun z => e2 (by rw [z.2]))] at h
      exact h I (fun _ _ => rfl)
