/-! pure: plans: the reference; sets -/
section PM
variable {I : QI} {T : QT} {K : List Q4} {s : Nat}
theorem m_plan_48 {KK : Int32 → Int32 → Int32 → QI → Prop} {post : QI → Prop} (hwT : Tw T) (hs : s < 16) (h1 : 1 ≤ s) (hC : ∀ p, p < s → isP s p = true → I 76 p = nI (CS T K p) ∧ I 76 (s ^^^ p) = nI (CS T K (s ^^^ p))) (h77 : I 77 s = nI s) (h : ∀ I2 : QI, (∀ b, b ≠ 77 → I2 b = I b) → (∀ j, j ≠ s → I2 77 j = I 77 j) → I2 77 s = nI (SP T K s) → KK (nI s) (nI 0) (mB (bst (CS T K) s s)) I2) : ∃ f, wX8_plan_48 KK post f (nI s) (nI (lw s)) 0 (-1) 1 I := by
  have hlw := f_lw s hs h1
  have e0 : bst (CS T K) s 1 = none := bst_n (fun p hp => f_none s hs h1 p (by omega) (by omega))
  suffices hh : ∃ f, wX8_plan_48 KK post f (nI s) (nI (lw s)) (nI 0) (mB (bst (CS T K) s 1)) (nI 1) I by
    rw [e0] at hh
    exact hh
  refine lp (fun f p (I4 : QI) => wX8_plan_48 KK post f (nI s) (nI (lw s)) (nI 0) (mB (bst (CS T K) s p)) (nI p) I4) (fun p I4 => (∀ b, b ≠ 77 → I4 b = I b) ∧ (∀ j, j ≠ s → I4 77 j = I 77 j) ∧ I4 77 s = nI (bQ s (bst (CS T K) s p))) s ?_ ?_ 1 I h1 ⟨fun _ _ => rfl, fun _ _ => rfl, by rw [e0]; exact h77⟩
  · rintro f I4 ⟨hF, hj, e77⟩
    show wX8_plan_48 _ _ _ _ _ _ _ _ _
    rw [wX8_plan_48]
    simp (disch := omega) only [fa_lit, nI_ltI, nI_leI, nI_eq, nI_add, pk_mul, nI_clamp, vp_in_nI, l_uk, l_n1, l_n1e, l_n1e2, l_n1l, l_n1l2, l_n1l3, not_true_eq_false, not_false_eq_true, true_implies, false_implies, true_and, and_true, and_self, forall_eq, bI_t, bI_f, Bool.false_eq_true, or_true, true_or, or_false, false_or, s1_ltx, if_true, if_false, Nat.add_zero, Nat.zero_add,  d_leF, d_leT, d_ltF, d_ltT, d_eqF, d_eqT]
    exact h I4 hF hj e77
  · rintro f p I4 hp ⟨hF, hj, e77⟩ hk
    have a1 := propext (f_not s hs p (by omega))
    have a2 := propext (f_and0 (lw s) (by omega) p (by omega))
    show wX8_plan_48 _ _ _ _ _ _ _ _ _
    rw [wX8_plan_48]
    cases e : isP s p
    · rw [bst_f e] at hk
      have hk2 := hk I4 ⟨hF, hj, e77⟩
      rcases isP_f e with e2 | e2
      · simp (disch := omega) only [a1, e2, fa_lit, nI_ltI, nI_leI, nI_eq, nI_add, pk_mul, nI_clamp, vp_in_nI, l_uk, l_n1, l_n1e, l_n1e2, l_n1l, l_n1l2, l_n1l3, not_true_eq_false, not_false_eq_true, true_implies, false_implies, true_and, and_true, and_self, forall_eq, bI_t, bI_f, Bool.false_eq_true, or_true, true_or, or_false, false_or, s1_ltx, if_true, if_false, Nat.add_zero, Nat.zero_add,  d_leF, d_leT, d_ltF, d_ltT, d_eqF, d_eqT]
        exact hk2
      · simp (disch := omega) only [a1, a2, e2, fa_lit, nI_ltI, nI_leI, nI_eq, nI_add, pk_mul, nI_clamp, vp_in_nI, l_uk, l_n1, l_n1e, l_n1e2, l_n1l, l_n1l2, l_n1l3, not_true_eq_false, not_false_eq_true, true_implies, false_implies, true_and, and_true, and_self, forall_eq, bI_t, bI_f, Bool.false_eq_true, or_true, true_or, or_false, false_or, s1_ltx, if_true, if_false, Nat.add_zero, Nat.zero_add,  d_leF, d_leT, d_ltF, d_ltT, d_eqF, d_eqT]
        exact ⟨fun _ => hk2, fun _ => hk2⟩
    · obtain ⟨e2, e3⟩ := isP_t e
      obtain ⟨x1, x2, x3, x4⟩ := f_isP s hs p (by omega) e hp
      obtain ⟨c1, c2⟩ := hC p hp e
      rw [← hF 76 (by omega)] at c1 c2
      have cl := cost_lt hwT (K := K) hs hp e
      have fx := f_rest s hs p (by omega) e2
      have hb : bst (CS T K) s (p + 1) = (match bst (CS T K) s p with
        | none => some (CS T K p + CS T K (s ^^^ p), p)
        | some q => if CS T K p + CS T K (s ^^^ p) < q.1 then some (CS T K p + CS T K (s ^^^ p), p) else some q) := by rw [bst, if_pos e]; cases bst (CS T K) s p <;> rfl
      rw [hb] at hk
      generalize hq : s ^^^ p = o at *
      have fin : ∀ I5, I5 = q_u2 I4 77 s (nI p) → (∀ b, b ≠ 77 → I5 b = I b) ∧ (∀ j, j ≠ s → I5 77 j = I 77 j) ∧ I5 77 s = nI p := by
        intro I5 e5
        rw [e5]
        exact ⟨fr_u2 hF, fun j hj2 => by rw [q_u2_j _ _ _ hj2]; exact hj j hj2, q_u2_s _ _ _ _⟩
      cases e4 : bst (CS T K) s p with
      | none =>
        rw [e4] at hk
        have em : mB none = N1 := rfl
        simp (disch := omega) only [a1, a2, e2, e3, fx, c1, c2, em, fa_lit, nI_ltI, nI_leI, nI_eq, nI_add, pk_mul, nI_clamp, vp_in_nI, l_uk, l_n1, l_n1e, l_n1e2, l_n1l, l_n1l2, l_n1l3, not_true_eq_false, not_false_eq_true, true_implies, false_implies, true_and, and_true, and_self, forall_eq, bI_t, bI_f, Bool.false_eq_true, or_true, true_or, or_false, false_or, s1_ltx, if_true, if_false, Nat.add_zero, Nat.zero_add,  d_leF, d_leT, d_ltF, d_ltT, d_eqF, d_eqT]
        exact hk _ (fin _ rfl)
      | some q =>
        rw [e4] at hk e77
        obtain ⟨y1, y2, y3⟩ := bst_si e4
        have cl2 := cost_lt hwT (K := K) hs (p := q.2) (by omega) y2
        have em : mB (some q) = nI q.1 := rfl
        by_cases e5 : CS T K p + CS T K o < q.1
        · have hk3 := hk _ (by
            show _ ∧ _ ∧ _ = nI (bQ s (if CS T K p + CS T K o < q.1 then some (CS T K p + CS T K o, p) else some q))
            rw [if_pos e5]
            exact fin _ rfl)
          have hk4 : wX8_plan_48 KK post f (nI s) (nI (lw s)) (nI 0) (mB (if CS T K p + CS T K o < q.1 then some (CS T K p + CS T K o, p) else some q)) (nI (p + 1)) (q_u2 I4 77 s (nI p)) := hk3
          rw [if_pos e5] at hk4
          simp (disch := omega) only [a1, a2, e2, e3, fx, c1, c2, em, fa_lit, nI_ltI, nI_leI, nI_eq, nI_add, pk_mul, nI_clamp, vp_in_nI, l_uk, l_n1, l_n1e, l_n1e2, l_n1l, l_n1l2, l_n1l3, not_true_eq_false, not_false_eq_true, true_implies, false_implies, true_and, and_true, and_self, forall_eq, bI_t, bI_f, Bool.false_eq_true, or_true, true_or, or_false, false_or, s1_ltx, if_true, if_false, Nat.add_zero, Nat.zero_add,  d_leF, d_leT, d_ltF, d_ltT, d_eqF, d_eqT]
          exact hk4
        · have hk3 := hk I4 (by
            show _ ∧ _ ∧ _ = nI (bQ s (if CS T K p + CS T K o < q.1 then some (CS T K p + CS T K o, p) else some q))
            rw [if_neg e5]
            exact ⟨hF, hj, e77⟩)
          have hk4 : wX8_plan_48 KK post f (nI s) (nI (lw s)) (nI 0) (mB (if CS T K p + CS T K o < q.1 then some (CS T K p + CS T K o, p) else some q)) (nI (p + 1)) I4 := hk3
          rw [if_neg e5] at hk4
          simp (disch := omega) only [a1, a2, e2, e3, fx, c1, c2, em, fa_lit, nI_ltI, nI_leI, nI_eq, nI_add, pk_mul, nI_clamp, vp_in_nI, l_uk, l_n1, l_n1e, l_n1e2, l_n1l, l_n1l2, l_n1l3, not_true_eq_false, not_false_eq_true, true_implies, false_implies, true_and, and_true, and_self, forall_eq, bI_t, bI_f, Bool.false_eq_true, or_true, true_or, or_false, false_or, s1_ltx, if_true, if_false, Nat.add_zero, Nat.zero_add,  d_leF, d_leT, d_ltF, d_ltT, d_eqF, d_eqT]
          exact hk4
theorem Km_fr {I2 : QI} (hK : Km I K) (h1 : I2 51 14 = I 51 14) (h2 : I2 62 = I 62) : Km I2 K := ⟨by rw [h1]; exact hK.1, fun v hv => by rw [h2]; exact hK.2 v hv⟩
theorem m_plan {post : QI → Prop} (hT : Tm I T) (hwT : Tw T) (hK : Km I K) (hw : Kw T K) (h : ∀ I2 : QI, (∀ b, b ≠ 76 → b ≠ 77 → I2 b = I b) → (∀ p, 1 ≤ p → p < 2 ^ T.1 → I2 76 p = nI (CS T K p) ∧ I2 77 p = nI (SP T K p)) → post I2) : wX8_plan I post := by
  have h4 := hwT.1
  have hsh := f_shl T.1 h4
  have hp16 := f_pow T.1 h4
  have h1p : 1 ≤ 2 ^ T.1 := Nat.one_le_two_pow
  generalize 2 ^ T.1 = N at *
  unfold wX8_plan
  refine lp (fun f w (I2 : QI) => wX8_plan_2 post f (nI w) I2) (fun w I2 => 1 ≤ w ∧ (∀ b, b ≠ 76 → b ≠ 77 → I2 b = I b) ∧ ∀ p, 1 ≤ p → p < w → I2 76 p = nI (CS T K p) ∧ I2 77 p = nI (SP T K p)) N ?_ ?_ 1 I h1p ⟨Nat.le_refl _, fun _ _ _ => rfl, fun p h2 h3 => by omega⟩
  · rintro f I2 ⟨w1, hF, hp⟩
    have e51 : I2 51 1 = nI T.1 := by rw [hF 51 (by omega) (by omega)]; exact hT.1
    show wX8_plan_2 _ _ _ _
    rw [wX8_plan_2]
    simp (disch := omega) only [e51, hsh, fa_lit, nI_ltI, nI_leI, nI_eq, nI_add, pk_mul, nI_clamp, vp_in_nI, l_uk, l_n1, l_n1e, l_n1e2, l_n1l, l_n1l2, l_n1l3, not_true_eq_false, not_false_eq_true, true_implies, false_implies, true_and, and_true, and_self, forall_eq, bI_t, bI_f, Bool.false_eq_true, or_true, true_or, or_false, false_or, s1_ltx, if_true, if_false, Nat.add_zero, Nat.zero_add,  d_leF, d_leT, d_ltF, d_ltT, d_eqF, d_eqT]
    exact h I2 hF hp
  · rintro f w I2 hwN ⟨w1, hF, hp⟩ hk
    have e51 : I2 51 1 = nI T.1 := by rw [hF 51 (by omega) (by omega)]; exact hT.1
    have hlw := f_lw w (by omega) w1
    have fl := f_low w (by omega) w1
    have ce := CS_eq (T := T) (K := K) (s := w) (by omega) w1
    show wX8_plan_2 _ _ _ _
    rw [wX8_plan_2]
    have hF3 : ∀ b, b ≠ 76 → b ≠ 77 → q_u2 (q_u2 I2 77 w (nI w)) 76 w (nI 0) b = I b := fun b h1 h2 => by rw [nr_u2 h1, nr_u2 h2]; exact hF b h1 h2
    have hp3 : ∀ p, 1 ≤ p → p < w → q_u2 (q_u2 I2 77 w (nI w)) 76 w (nI 0) 76 p = nI (CS T K p) ∧ q_u2 (q_u2 I2 77 w (nI w)) 76 w (nI 0) 77 p = nI (SP T K p) := fun p h1 h2 => by
      rw [q_u2_j _ _ _ (by omega), nr_u2 (show (76 : Nat) ≠ 77 by omega), nr_u2 (show (77 : Nat) ≠ 76 by omega), q_u2_j _ _ _ (by omega)]
      exact hp p h1 h2
    have e77 : q_u2 (q_u2 I2 77 w (nI w)) 76 w (nI 0) 77 w = nI w := by rw [nr_u2 (by omega)]; exact q_u2_s _ _ _ _
    generalize hI3 : q_u2 (q_u2 I2 77 w (nI w)) 76 w (nI 0) = I3 at *
    have fin : ∀ I4 : QI, (∀ b, b ≠ 77 → I4 b = I3 b) → (∀ j, j ≠ w → I4 77 j = I3 77 j) → I4 77 w = nI (SP T K w) → ∀ x, x = CS T K w → wX8_plan_2 post f (nI (w + 1)) (q_u2 I4 76 w (nI x)) := by
      intro I4 a1 a2 a3 x hx
      refine hk _ ⟨by omega, fun b h1 h2 => by rw [nr_u2 h1, a1 b h2]; exact hF3 b h1 h2, fun p h2 h3 => ?_⟩
      by_cases e3 : p = w
      · subst e3
        exact ⟨by rw [q_u2_s, hx], by rw [nr_u2 (by omega)]; exact a3⟩
      · rw [q_u2_j _ _ _ e3, nr_u2 (show (77 : Nat) ≠ 76 by omega), a1 76 (by omega), a2 p e3]
        exact hp3 p h2 (by omega)
    by_cases e : w = lw w
    · rw [if_pos e] at ce
      have eSP : SP T K w = w := by
        unfold SP
        rw [bst_n (fun p hp2 => f_none w (by omega) w1 p (by omega) (by omega))]
        rfl
      have f9 := fin I3 (fun _ _ => rfl) (fun _ _ => rfl) (by rw [eSP]; exact e77) 0 ce.symm
      have e9 : (nI w = nI (lw w)) = True := eq_true (by rw [← e])
      simp (disch := omega) only [e51, hsh, fl, hI3, e9, fa_lit, nI_ltI, nI_leI, nI_eq, nI_add, pk_mul, nI_clamp, vp_in_nI, l_uk, l_n1, l_n1e, l_n1e2, l_n1l, l_n1l2, l_n1l3, not_true_eq_false, not_false_eq_true, true_implies, false_implies, true_and, and_true, and_self, forall_eq, bI_t, bI_f, Bool.false_eq_true, or_true, true_or, or_false, false_or, s1_ltx, if_true, if_false, Nat.add_zero, Nat.zero_add,  d_leF, d_leT, d_ltF, d_ltT, d_eqF, d_eqT]
      refine ⟨1, ?_⟩
      rw [wX8_plan_48]
      simp (disch := omega) only [fa_lit, nI_ltI, nI_leI, nI_eq, nI_add, pk_mul, nI_clamp, vp_in_nI, l_uk, l_n1, l_n1e, l_n1e2, l_n1l, l_n1l2, l_n1l3, not_true_eq_false, not_false_eq_true, true_implies, false_implies, true_and, and_true, and_self, forall_eq, bI_t, bI_f, Bool.false_eq_true, or_true, true_or, or_false, false_or, s1_ltx, if_true, if_false, Nat.add_zero, Nat.zero_add,  d_leF, d_leT, d_ltF, d_ltT, d_eqF, d_eqT]
      exact ⟨fun _ => f9, fun _ => f9⟩
    · rw [if_neg e] at ce
      simp (disch := omega) only [e51, hsh, fl, hI3, fa_lit, nI_ltI, nI_leI, nI_eq, nI_add, pk_mul, nI_clamp, vp_in_nI, l_uk, l_n1, l_n1e, l_n1e2, l_n1l, l_n1l2, l_n1l3, not_true_eq_false, not_false_eq_true, true_implies, false_implies, true_and, and_true, and_self, forall_eq, bI_t, bI_f, Bool.false_eq_true, or_true, true_or, or_false, false_or, s1_ltx, if_true, if_false, Nat.add_zero, Nat.zero_add,  d_leF, d_leT, d_ltF, d_ltT, d_eqF, d_eqT]
      refine m_plan_48 hwT (K := K) (by omega) w1 (fun p hp2 e2 => ?_) e77 (fun I4 a1 a2 a3 => ?_)
      · obtain ⟨x1, x2, x3, x4⟩ := f_isP w (by omega) p (by omega) e2 hp2
        exact ⟨(hp3 p (by omega) hp2).1, (hp3 _ (by omega) x1).1⟩
      · have hF4 : ∀ b, b ≠ 76 → b ≠ 77 → I4 b = I b := fun b h1 h2 => by rw [a1 b h2]; exact hF3 b h1 h2
        cases eb : bst (CS T K) w w with
        | none => exact absurd eb (bst_some (f_lowest w (by omega) w1) (by omega))
        | some q =>
          have em : mB (some q) = nI q.1 := rfl
          rw [eb] at ce
          simp (disch := omega) only [em, fa_lit, nI_ltI, nI_leI, nI_eq, nI_add, pk_mul, nI_clamp, vp_in_nI, l_uk, l_n1, l_n1e, l_n1e2, l_n1l, l_n1l2, l_n1l3, not_true_eq_false, not_false_eq_true, true_implies, false_implies, true_and, and_true, and_self, forall_eq, bI_t, bI_f, Bool.false_eq_true, or_true, true_or, or_false, false_or, s1_ltx, if_true, if_false, Nat.add_zero, Nat.zero_add,  d_leF, d_leT, d_ltF, d_ltT, d_eqF, d_eqT]
          refine m_estimateOf (Tm_fr hT (fun b h1 h2 => hF4 b (by omega) (by omega))) hwT (K := K) (Km_fr hK (by rw [hF4 51 (by omega) (by omega)]) (hF4 62 (by omega) (by omega))) hw (by omega) ?_
          simp (disch := omega) only [fa_lit, nI_ltI, nI_leI, nI_eq, nI_add, pk_mul, nI_clamp, vp_in_nI, l_uk, l_n1, l_n1e, l_n1e2, l_n1l, l_n1l2, l_n1l3, not_true_eq_false, not_false_eq_true, true_implies, false_implies, true_and, and_true, and_self, forall_eq, bI_t, bI_f, Bool.false_eq_true, or_true, true_or, or_false, false_or, s1_ltx, if_true, if_false, Nat.add_zero, Nat.zero_add,  d_leF, d_leT, d_ltF, d_ltT, d_eqF, d_eqT]
          exact fin I4 a1 a2 a3 _ ce.symm
theorem p_hasSet {post : Int32 → Prop} (hT : Tc I T) (hwT : Tw T) (h1 : 1 ≤ s) (h2 : s < 2 ^ T.1) (h : post (nI 1)) : wX4_hasSet (nI s) I post := by
  have hsh := f_shl T.1 hwT.1
  have hp16 := f_pow T.1 hwT.1
  generalize 2 ^ T.1 = N at *
  unfold wX4_hasSet
  simp (disch := omega) only [hT.1, hsh, fa_lit, nI_ltI, nI_leI, nI_eq, nI_add, pk_mul, nI_clamp, vp_in_nI, l_uk, l_n1, l_n1e, l_n1e2, l_n1l, l_n1l2, l_n1l3, not_true_eq_false, not_false_eq_true, true_implies, false_implies, true_and, and_true, and_self, forall_eq, bI_t, bI_f, Bool.false_eq_true, or_true, true_or, or_false, false_or, s1_ltx, if_true, if_false, Nat.add_zero, Nat.zero_add,  d_leF, d_leT, d_ltF, d_ltT, d_eqF, d_eqT]
  exact h
theorem p_hasSet_f {x : Int32} {post : Int32 → Prop} (hT : Tc I T) (hwT : Tw T) (hx : x ≤ nI 0 ∨ nI (2 ^ T.1) ≤ x) (h : post (nI 0)) : wX4_hasSet x I post := by
  have hsh := f_shl T.1 hwT.1
  have hp16 := f_pow T.1 hwT.1
  generalize 2 ^ T.1 = N at *
  unfold wX4_hasSet
  simp (disch := omega) only [hT.1, hsh, fa_lit, nI_ltI, nI_leI, nI_eq, nI_add, pk_mul, nI_clamp, vp_in_nI, l_uk, l_n1, l_n1e, l_n1e2, l_n1l, l_n1l2, l_n1l3, not_true_eq_false, not_false_eq_true, true_implies, false_implies, true_and, and_true, and_self, forall_eq, bI_t, bI_f, Bool.false_eq_true, or_true, true_or, or_false, false_or, s1_ltx, if_true, if_false, Nat.add_zero, Nat.zero_add,  d_leF, d_leT, d_ltF, d_ltT, d_eqF, d_eqT]
  exact ⟨fun _ => h, fun e => ⟨fun _ => h, fun e2 => absurd hx (not_or.mpr ⟨e, e2⟩)⟩⟩
theorem m_isSet {post : Int32 → Prop} (hT : Tm I T) (hwT : Tw T) (h1 : 1 ≤ s) (h2 : s < 2 ^ T.1) (h : post (nI 1)) : wX8_isSet (nI s) I post := by
  have hsh := f_shl T.1 hwT.1
  have hp16 := f_pow T.1 hwT.1
  generalize 2 ^ T.1 = N at *
  unfold wX8_isSet
  simp (disch := omega) only [hT.1, hsh, fa_lit, nI_ltI, nI_leI, nI_eq, nI_add, pk_mul, nI_clamp, vp_in_nI, l_uk, l_n1, l_n1e, l_n1e2, l_n1l, l_n1l2, l_n1l3, not_true_eq_false, not_false_eq_true, true_implies, false_implies, true_and, and_true, and_self, forall_eq, bI_t, bI_f, Bool.false_eq_true, or_true, true_or, or_false, false_or, s1_ltx, if_true, if_false, Nat.add_zero, Nat.zero_add,  d_leF, d_leT, d_ltF, d_ltT, d_eqF, d_eqT]
  exact h
theorem m_isSet_f {x : Int32} {post : Int32 → Prop} (hT : Tm I T) (hwT : Tw T) (hx : x ≤ nI 0 ∨ nI (2 ^ T.1) ≤ x) (h : post (nI 0)) : wX8_isSet x I post := by
  have hsh := f_shl T.1 hwT.1
  have hp16 := f_pow T.1 hwT.1
  generalize 2 ^ T.1 = N at *
  unfold wX8_isSet
  simp (disch := omega) only [hT.1, hsh, fa_lit, nI_ltI, nI_leI, nI_eq, nI_add, pk_mul, nI_clamp, vp_in_nI, l_uk, l_n1, l_n1e, l_n1e2, l_n1l, l_n1l2, l_n1l3, not_true_eq_false, not_false_eq_true, true_implies, false_implies, true_and, and_true, and_self, forall_eq, bI_t, bI_f, Bool.false_eq_true, or_true, true_or, or_false, false_or, s1_ltx, if_true, if_false, Nat.add_zero, Nat.zero_add,  d_leF, d_leT, d_ltF, d_ltT, d_eqF, d_eqT]
  exact ⟨fun _ => h, fun e => ⟨fun _ => h, fun e2 => absurd hx (not_or.mpr ⟨e, e2⟩)⟩⟩
/-- a set of tables, or not -/
theorem setc (x : Int32) (hwT : Tw T) : (∃ s, 1 ≤ s ∧ s < 2 ^ T.1 ∧ s < 16 ∧ x = nI s) ∨ (x ≤ nI 0 ∨ nI (2 ^ T.1) ≤ x) := by
  have hp16 := f_pow T.1 hwT.1
  generalize 2 ^ T.1 = N at *
  rcases ixc x N (by omega) with ⟨j, h1, h2⟩ | h | h
  · by_cases e : j = 0
    · right; left
      rw [h2, e]
      exact Int32.le_refl _
    · exact Or.inl ⟨j, by omega, h1, by omega, h2⟩
  · right; left
    exact Int32.le_of_lt h
  · exact Or.inr (Or.inr h)
end PM
