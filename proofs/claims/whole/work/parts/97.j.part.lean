/-! pure: the reference parts a list -/
theorem sB_lt {g e : Nat} (hg : g < 2 ^ 30) (he : e < 2 ^ 30) : (sB g < nI e) = (g ≤ e) := by
  cases g with
  | zero => rw [sB_0, l_n1l (by omega)]; exact (eq_true (Nat.zero_le e)).symm
  | succ g => rw [sB_s, nI_ltI (by omega) (by omega)]; rfl
theorem sB_le {g e : Nat} (hg : g < 2 ^ 30) (he : e < 2 ^ 30) : (nI e ≤ sB g) = (¬ g ≤ e) := by
  cases g with
  | zero => rw [sB_0, l_n1l2 (by omega)]; exact (eq_false (fun z => z (Nat.zero_le e))).symm
  | succ g =>
    rw [sB_s, nI_leI (by omega) (by omega)]
    exact propext ⟨fun h => by omega, fun h => by omega⟩
def stk (lf : Bool) (wa g e : Nat) : Bool := lf && (decide (¬ e / 1200 < wa) || decide (¬ g ≤ e))
def prC (lf : Bool) (wa : Nat) (sec : Bool) : Nat → List Nat → List Nat
  | _, [] => []
  | g, e :: es => if stk lf wa g e then prC lf wa sec (if g ≤ e then e + 1 else g) es else
    if decide (¬ e / 1200 < wa) = sec then (if sec then e - 1200 * wa else e) :: prC lf wa sec g es else prC lf wa sec g es
def lofs (X : List (List Nat) × Nat) : List Nat → List (List Nat) × Nat
  | [] => X
  | e :: K => lof (lofs X K) (e :: K)
theorem lof_x (X : List (List Nat) × Nat) (M : List Nat) : (∃ D, (lof X M).1 = X.1 ++ D) ∧ X.2 ≤ (lof X M).2 := by
  unfold lof
  split
  · exact ⟨⟨[], (List.append_nil _).symm⟩, Nat.le_refl _⟩
  · refine ⟨⟨[M], rfl⟩, ?_⟩
    show X.2 ≤ if X.1.length = 64 * X.2 then 2 * X.2 else X.2
    split <;> omega
theorem lofs_x (X : List (List Nat) × Nat) : ∀ K, (∃ D, (lofs X K).1 = X.1 ++ D) ∧ X.2 ≤ (lofs X K).2
  | [] => ⟨⟨[], (List.append_nil _).symm⟩, Nat.le_refl _⟩
  | e :: K => by
    obtain ⟨⟨D, h1⟩, h2⟩ := lofs_x X K
    obtain ⟨⟨D2, h3⟩, h4⟩ := lof_x (lofs X K) (e :: K)
    exact ⟨⟨D ++ D2, by rw [lofs, h3, h1, List.append_assoc]⟩, Nat.le_trans h2 h4⟩
section MPt
variable {I : QI} {T : QT} {P : List Nd} {n : Nat}
theorem m_isOfSecond {e : Nat} {post : Int32 → Prop} (hP : Pm I P) (hw : Pw T P) (hn : n < P.length) (h0 : ¬ (nd P n).1 = 0) (he : e < 2 ^ 30) (h : post (bI (decide (¬ e / 1200 < (nd P (nd P n).2.1).2.2.2.2.2.2)))) : wX8_isOfSecond (nI n) (nI e) I post := by
  have h24 := hw.1
  have ha := (hw.2 n hn).ab.1 h0
  have wa6 := (hw.2 (nd P n).2.1 (by omega)).1.2.2.2.2.2.2
  unfold wX8_isOfSecond
  simp (disch := omega) only [(hP.2 n hn).2.1, (hP.2 (nd P n).2.1 (by omega)).2.2.2.2.2.2, pk_div, fa_lit, nI_ltI, nI_leI, nI_eq, nI_add, pk_mul, nI_clamp, vp_in_nI, l_uk, l_n1, l_n1e, l_n1e2, l_n1l, l_n1l2, l_n1l3, not_true_eq_false, not_false_eq_true, true_implies, false_implies, true_and, and_true, and_self, forall_eq, bI_t, bI_f, Bool.false_eq_true, or_true, true_or, or_false, false_or, s1_ltx, if_true, if_false, Nat.add_zero, Nat.zero_add,  d_leF, d_leT, d_ltF, d_ltT, d_eqF, d_eqT]
  by_cases e2 : e / 1200 < (nd P (nd P n).2.1).2.2.2.2.2.2
  · rw [decide_eq_false (fun z => z e2)] at h
    exact ⟨fun _ => h, fun z => absurd e2 z⟩
  · rw [decide_eq_true e2] at h
    exact ⟨fun z => absurd z e2, fun _ => h⟩
theorem m_sticks {e g : Nat} {post : Int32 → Prop} (hP : Pm I P) (hw : Pw T P) (hn : n < P.length) (h2 : (nd P n).1 = 2) (he : e < 2 ^ 30) (hg : g < 2 ^ 30) (h : post (bI (stk (decide ((nd P n).2.2.2.1 = 1)) (nd P (nd P n).2.1).2.2.2.2.2.2 g e))) : wX8_sticks (nI n) (nI e) (sB g) I post := by
  have h24 := hw.1
  have k6 := (hw.2 n hn).1.2.2.2.1
  have o3e : o3 (nd P n) = nI (nd P n).2.2.2.1 := o3_j h2
  unfold stk at h
  unfold wX8_sticks
  simp (disch := omega) only [(hP.2 n hn).2.2.2.2.2.1, o3e, fa_lit, nI_ltI, nI_leI, nI_eq, nI_add, pk_mul, nI_clamp, vp_in_nI, l_uk, l_n1, l_n1e, l_n1e2, l_n1l, l_n1l2, l_n1l3, not_true_eq_false, not_false_eq_true, true_implies, false_implies, true_and, and_true, and_self, forall_eq, bI_t, bI_f, Bool.false_eq_true, or_true, true_or, or_false, false_or, s1_ltx, if_true, if_false, Nat.add_zero, Nat.zero_add,  d_leF, d_leT, d_ltF, d_ltT, d_eqF, d_eqT]
  refine ⟨fun e2 => ?_, fun e2 => ?_⟩
  · rw [decide_eq_false e2] at h
    exact h
  · rw [decide_eq_true e2, Bool.true_and] at h
    refine m_isOfSecond hP hw hn (by omega) he ?_
    cases e3 : decide (¬ e / 1200 < (nd P (nd P n).2.1).2.2.2.2.2.2)
    · rw [e3, Bool.false_or] at h
      simp (disch := omega) only [fa_lit, nI_ltI, nI_leI, nI_eq, nI_add, pk_mul, nI_clamp, vp_in_nI, l_uk, l_n1, l_n1e, l_n1e2, l_n1l, l_n1l2, l_n1l3, not_true_eq_false, not_false_eq_true, true_implies, false_implies, true_and, and_true, and_self, forall_eq, bI_t, bI_f, Bool.false_eq_true, or_true, true_or, or_false, false_or, s1_ltx, if_true, if_false, Nat.add_zero, Nat.zero_add,  d_leF, d_leT, d_ltF, d_ltT, d_eqF, d_eqT]
      rw [sB_lt hg he]
      refine ⟨fun e4 => ?_, fun e4 => ?_⟩
      · rw [decide_eq_false (fun z => z e4)] at h
        exact h
      · rw [decide_eq_true e4] at h
        exact h
    · rw [e3, Bool.true_or] at h
      simp (disch := omega) only [fa_lit, nI_ltI, nI_leI, nI_eq, nI_add, pk_mul, nI_clamp, vp_in_nI, l_uk, l_n1, l_n1e, l_n1e2, l_n1l, l_n1l2, l_n1l3, not_true_eq_false, not_false_eq_true, true_implies, false_implies, true_and, and_true, and_self, forall_eq, bI_t, bI_f, Bool.false_eq_true, or_true, true_or, or_false, false_or, s1_ltx, if_true, if_false, Nat.add_zero, Nat.zero_add,  d_leF, d_leT, d_ltF, d_ltT, d_eqF, d_eqT]
      exact h
end MPt
theorem AT.un2 {S : QS} {I : QI} {C : List (List Nat)} {PS : List Pr} {u v k : Nat} (h : AT S I (C, u, PS, v)) (hk : k < C.length) : ∃ p1 p2 e r, S.2.2.2.2 51 25 = some p1 ∧ S.2.2.2.2 51 26 = some p2 ∧ vp_in (nI k) (S.2.2.2.1 p1) ∧ vp_in (nI k) (S.2.2.2.1 p2) ∧ C.getD k [] = e :: lcn C r ∧ I p1 (nI k).toNatClampNeg = nI e ∧ I p2 (nI k).toNatClampNeg = sB r ∧ r ≤ k ∧ e < 7200 ∧ k < 2 ^ 30 := by
  obtain ⟨p1, p2, q1, q2, q3, hg, hL, hP, hO, lC, lP, u1, v1, u9, v9, S80, SN⟩ := h.un
  obtain ⟨⟨r1, r2, r3, r4, r5⟩, ⟨z1, z2, z3, z4, z5⟩, -⟩ := hg
  obtain ⟨e, r, x1, x2, x3, x4, x5⟩ := hL.2 k hk
  have z1 : S.2.2.2.1 p1 = 64 * u := z1
  have z2 : S.2.2.2.1 p2 = 64 * u := z2
  exact ⟨p1, p2, e, r, r1, r2, pk_in k _ (by omega) rfl (by omega), pk_in k _ (by omega) rfl (by omega), x1, by rw [nI_clamp (by omega)]; exact x2, by rw [nI_clamp (by omega)]; exact x3, x4, x5, by omega⟩
theorem m_partOf {T : QT} {P : List Nd} {n : Nat} {sec : Bool} (hw : Pw T P) (hn : n < P.length) (h2 : (nd P n).1 = 2) : ∀ (f : Nat) {S : QS} {I : QI} {C : List (List Nat)} {u : Nat} {PS : List Pr} {v r g c s : Nat} {L : List Nat} {post : Int32 → QS → QI → Prop}, AT S I (C, u, PS, v) → Pm I P → r ≤ C.length → lcn C r = L → L.length < f → g < 8000 → (lofs (C, u) (prC (decide ((nd P n).2.2.2.1 = 1)) (nd P (nd P n).2.1).2.2.2.2.2.2 sec g L)).2 ≤ 16384 → 2 * ((lofs (C, u) (prC (decide ((nd P n).2.2.2.1 = 1)) (nd P (nd P n).2.1).2.2.2.2.2.2 sec g L)).2 - u) ≤ c → 256 * ((lofs (C, u) (prC (decide ((nd P n).2.2.2.1 = 1)) (nd P (nd P n).2.1).2.2.2.2.2.2 sec g L)).2 - u) ≤ s → (∀ r2 S2 I2, r2 ≤ (lofs (C, u) (prC (decide ((nd P n).2.2.2.1 = 1)) (nd P (nd P n).2.1).2.2.2.2.2.2 sec g L)).1.length → lcn (lofs (C, u) (prC (decide ((nd P n).2.2.2.1 = 1)) (nd P (nd P n).2.1).2.2.2.2.2.2 sec g L)).1 r2 = prC (decide ((nd P n).2.2.2.1 = 1)) (nd P (nd P n).2.1).2.2.2.2.2.2 sec g L → AT S2 I2 ((lofs (C, u) (prC (decide ((nd P n).2.2.2.1 = 1)) (nd P (nd P n).2.1).2.2.2.2.2.2 sec g L)).1, (lofs (C, u) (prC (decide ((nd P n).2.2.2.1 = 1)) (nd P (nd P n).2.1).2.2.2.2.2.2 sec g L)).2, PS, v) → FL1 I I2 → post (sB r2) S2 I2) → wX8_partOf f (sB r) (nI n) (bI sec) (sB g) S I c s post
  | 0, S, I, C, u, PS, v, r, g, c, s, L, post, _, _, _, _, h, _, _, _, _, _ => absurd h (Nat.not_lt_zero _)
  | f + 1, S, I, C, u, PS, v, r, g, c, s, L, post, hA, hP, hr, hL, hf, hg, hu, hc, hs, h => by
    have h24 := hw.1
    have ha := (hw.2 n hn).ab.1 (by omega)
    have wa6 := (hw.2 (nd P n).2.1 (by omega)).1.2.2.2.2.2.2
    rw [wX8_partOf]
    by_cases e0 : r = 0
    · subst e0
      rw [lcn_0] at hL
      subst hL
      exact ⟨fun z => absurd sB_0 z, fun _ => h 0 S I (Nat.zero_le _) rfl hA (FL1.rf _)⟩
    · obtain ⟨k, hk⟩ : ∃ k, r = k + 1 := ⟨r - 1, by omega⟩
      subst hk
      obtain ⟨p1, p2, e, r0, s1, s2, v1, v2, x1, x2, x3, x4, x5, x6⟩ := hA.un2 (show k < C.length by omega)
      rw [lcn_s, x1] at hL
      rw [sB_s]
      refine ⟨fun _ => ?_, fun z => by
        have z2 : nI k = N1 := z
        rw [l_n1e (by omega)] at z2
        exact z2.elim⟩
      refine b_S s1 ⟨v1, ?_⟩
      intro w hw2
      rw [x2] at hw2
      subst hw2
      refine m_sticks hP hw hn h2 (by omega) (by omega) ?_
      have hf2 : (lcn C r0).length < f := by
        rw [← hL] at hf
        exact Nat.lt_of_succ_lt_succ hf
      generalize hlf : decide ((nd P n).2.2.2.1 = 1) = lf at *
      generalize hwa : (nd P (nd P n).2.1).2.2.2.2.2.2 = wa at *
      have hp : prC lf wa sec g L = if stk lf wa g e then prC lf wa sec (if g ≤ e then e + 1 else g) (lcn C r0) else if decide (¬ e / 1200 < wa) = sec then (if sec then e - 1200 * wa else e) :: prC lf wa sec g (lcn C r0) else prC lf wa sec g (lcn C r0) := by rw [← hL]; rfl
      rw [hp] at hu hc hs h
      have ih := fun (g2 c2 s2 : Nat) (post2 : Int32 → QS → QI → Prop) => m_partOf (sec := sec) hw hn h2 f (g := g2) (c := c2) (s := s2) (post := post2) hA hP (show r0 ≤ C.length by omega) rfl hf2
      rw [hlf, hwa] at ih
      cases est : stk lf wa g e
      · rw [est, if_neg (by decide)] at hu hc hs h
        refine b_S s2 ⟨v2, fun _ => ?_, fun z => absurd rfl z⟩
        rw [x3]
        obtain ⟨xD, xu⟩ := lofs_x (C, u) (prC lf wa sec g (lcn C r0))
        replace xu : u ≤ (lofs (C, u) (prC lf wa sec g (lcn C r0))).2 := xu
        by_cases e4 : decide (¬ e / 1200 < wa) = sec
        · rw [if_pos e4] at hu hc hs h
          obtain ⟨-, xu2⟩ := lof_x (lofs (C, u) (prC lf wa sec g (lcn C r0))) ((if sec then e - 1200 * wa else e) :: prC lf wa sec g (lcn C r0))
          rw [lofs] at hu hc hs h
          refine ⟨2 * ((lofs (C, u) (prC lf wa sec g (lcn C r0))).2 - u), 256 * ((lofs (C, u) (prC lf wa sec g (lcn C r0))).2 - u), by omega, by omega, ?_⟩
          refine ih g _ _ _ hg (by omega) (Nat.le_refl _) (Nat.le_refl _) (fun r5 S6 I7 y1 y2 y3 y4 => ⟨fun z => absurd rfl z, fun _ => ?_⟩)
          have hP7 := y4.pm hP
          refine m_isOfSecond hP7 hw hn (by omega) (by omega) ?_
          rw [hwa, e4]
          refine ⟨fun _ => ?_, fun z => absurd rfl z⟩
          generalize lofs (C, u) (prC lf wa sec g (lcn C r0)) = X1 at *
          generalize prC lf wa sec g (lcn C r0) = K1 at *
          have lst : ∀ (e' c2 s2 : Nat), e' = (if sec then e - 1200 * wa else e) → 2 * ((lof X1 (e' :: K1)).2 - X1.2) ≤ c2 → 256 * ((lof X1 (e' :: K1)).2 - X1.2) ≤ s2 → wX8_listOf (nI e') (sB r5) S6 I7 c2 s2 (fun r9 S10 I11 => post r9 S10 I11) := by
            intro e' c2 s2 he' g1 g2
            rw [← he'] at hu h
            have he9 : e' < 7200 := by
              rw [he']
              split <;> omega
            refine m_listOf (C := X1.1) (u := X1.2) y3 he9 y1 ?_ ?_ ?_ (fun k2 S2 I2 w1 w2 w3 w4 => ?_)
            · rw [y2]; exact hu
            · rw [y2]; exact g1
            · rw [y2]; exact g2
            · rw [y2] at w1 w2 w3
              exact h (k2 + 1) S2 I2 w1 w2 w3 (y4.tr w4)
          cases sec
          · refine ⟨fun _ => ?_, fun z => absurd rfl z⟩
            exact ⟨2 * ((lof X1 (e :: K1)).2 - X1.2), 256 * ((lof X1 (e :: K1)).2 - X1.2), by replace hc : 2 * ((lof X1 (e :: K1)).2 - u) ≤ c := hc; replace xu2 : X1.2 ≤ (lof X1 (e :: K1)).2 := xu2; omega, by replace hs : 256 * ((lof X1 (e :: K1)).2 - u) ≤ s := hs; replace xu2 : X1.2 ≤ (lof X1 (e :: K1)).2 := xu2; omega, lst e _ _ rfl (Nat.le_refl _) (Nat.le_refl _)⟩
          · have e6 := of_decide_eq_true e4
            have q56 : I7 56 (nI n).toNatClampNeg = nI (nd P n).2.1 := by rw [nI_clamp (by omega)]; exact (hP7.2 n hn).2.1
            have q61 : I7 61 (nI (nd P n).2.1).toNatClampNeg = nI wa := by rw [nI_clamp (by omega), ← hwa]; exact (hP7.2 _ (by omega)).2.2.2.2.2.2
            refine ⟨fun z => absurd z (by decide), fun _ => ⟨pk_in n _ (by omega) rfl (by omega), ?_⟩⟩
            rw [q56, q61]
            refine ⟨pk_in _ _ (show (nd P n).2.1 < 24 by omega) rfl (by omega), 2 * ((lof X1 ((e - 1200 * wa) :: K1)).2 - X1.2), 256 * ((lof X1 ((e - 1200 * wa) :: K1)).2 - X1.2), by replace hc : 2 * ((lof X1 ((e - 1200 * wa) :: K1)).2 - u) ≤ c := hc; replace xu2 : X1.2 ≤ (lof X1 ((e - 1200 * wa) :: K1)).2 := xu2; omega, by replace hs : 256 * ((lof X1 ((e - 1200 * wa) :: K1)).2 - u) ≤ s := hs; replace xu2 : X1.2 ≤ (lof X1 ((e - 1200 * wa) :: K1)).2 := xu2; omega, ?_⟩
            have e7 : nI e - (1200 * nI wa) = nI (e - 1200 * wa) := by
              rw [fa_lit 1200, pk_mul, pk_sub (by omega)]
            rw [e7]
            exact lst (e - 1200 * wa) _ _ rfl (Nat.le_refl _) (Nat.le_refl _)
        · rw [if_neg e4] at hu hc hs h
          refine ⟨c, s, by omega, by omega, ?_⟩
          refine ih g _ _ _ hg hu hc hs (fun r5 S6 I7 y1 y2 y3 y4 => ⟨fun z => absurd rfl z, fun _ => ?_⟩)
          refine m_isOfSecond (y4.pm hP) hw hn (by omega) (by omega) ?_
          rw [hwa]
          refine ⟨fun z => ?_, fun _ => h r5 S6 I7 y1 y2 y3 y4⟩
          exfalso
          revert z e4
          cases decide (¬ e / 1200 < wa) <;> cases sec <;> simp (decide := true) [bI_t, bI_f, nI_eq]
      · rw [est, if_pos rfl] at hu hc hs h
        refine b_S s2 ⟨v2, fun z => absurd z (by decide), fun _ => ?_⟩
        rw [x3, sB_le (by omega) (by omega)]
        by_cases e5 : g ≤ e
        · rw [if_pos e5] at hu hc hs h
          refine ⟨fun z => absurd e5 z, fun _ => ⟨c, s, by omega, by omega, ?_⟩⟩
          rw [← sB_s]
          exact ih (e + 1) _ _ _ (by omega) hu hc hs (fun r5 S6 I7 y1 y2 y3 y4 => ⟨fun _ => h r5 S6 I7 y1 y2 y3 y4, fun z => absurd z (by decide)⟩)
        · rw [if_neg e5] at hu hc hs h
          refine ⟨fun _ => ⟨c, s, by omega, by omega, ?_⟩, fun z => absurd e5 z⟩
          exact ih g _ _ _ hg hu hc hs (fun r5 S6 I7 y1 y2 y3 y4 => ⟨fun _ => h r5 S6 I7 y1 y2 y3 y4, fun z => absurd z (by decide)⟩)
