/-! pure: the class works out what it is asked for -/
/-- a loop that counts down -/
theorem lpd {σ : Type} (W : Nat → Nat → σ → Prop) (Inv : Nat → σ → Prop) (hx : ∀ f s, Inv 0 s → W (f + 1) 0 s) (hs : ∀ f i s, Inv (i + 1) s → (∀ s', Inv i s' → W f i s') → W (f + 1) (i + 1) s) : ∀ (i : Nat) (s : σ), Inv i s → ∃ f, W f i s := by
  have key : ∀ i s, Inv i s → W (i + 1) i s := by
    intro i
    induction i with
    | zero => exact fun s h => hx 0 s h
    | succ i ih => exact fun s h => hs (i + 1) i s h ih
  exact fun i s h => ⟨i + 1, key i s h⟩
theorem sB_dec (i : Nat) : nI i + N1 = sB i := by
  cases i with
  | zero => decide
  | succ i => exact pk_m1 i
/-- what is wanted -/
def Wq (I : QI) (W : Nat → Bool) (i p : Nat) : Prop := W p = true ∨ (i ≤ p ∧ I 27 p = I 1 2)
theorem p_want {I : QI} {n : Nat} {post : QI → Prop} (hn : n < 24) (h : post (q_u2 I 28 n (bI true))) : wX0_want (nI n) I post := by
  unfold wX0_want
  simp (disch := omega) only [fa_lit, nI_ltI, nI_leI, nI_eq, nI_add, pk_mul, nI_clamp, vp_in_nI, l_uk, l_n1, l_n1e, l_n1e2, l_n1l, l_n1l2, l_n1l3, not_true_eq_false, not_false_eq_true, true_implies, false_implies, true_and, and_true, and_self, forall_eq, bI_t, bI_f, Bool.false_eq_true, or_true, true_or, or_false, false_or, s1_ltx, if_true, if_false, Nat.add_zero, Nat.zero_add,  d_leF, d_leT, d_ltF, d_ltT, d_eqF, d_eqT]
  exact h
theorem p_want_n {I : QI} {post : QI → Prop} (h : post I) : wX0_want N1 I post := by
  unfold wX0_want
  exact ⟨fun _ => h, fun e => absurd N1_neg e⟩
def Wi (I : QI) (P : List Nd) (n i : Nat) (W : Nat → Bool) : Prop := (∀ m, m < 24 → W m = true → m ≤ n) ∧ (∀ m, i ≤ m → m < 24 → W m = true → ¬ I 27 m = I 1 2) ∧ (∀ m, i ≤ m → m < 24 → W m = true → ((nd P m).1 ≠ 0 → Wq I W i (nd P m).2.1) ∧ ((nd P m).2.2.1 ≠ 0 → Wq I W i ((nd P m).2.2.1 - 1))) ∧ Wq I W i n
theorem p_markWanted {I : QI} {T : QT} {P : List Nd} (hP : Pc I P) (hw : Pw T P) {n : Nat} (hn : n < P.length) {post : QI → Prop} (h : ∀ (I2 : QI) (W : Nat → Bool), (∀ b, b ≠ 28 → I2 b = I b) → (∀ k, k < 24 → I2 28 k = bI (W k)) → Wi I P n 0 W → post I2) : wX0_markWanted (nI n) I post := by
  have h24 := hw.1
  unfold wX0_markWanted
  refine lp (fun f i (I2 : QI) => wX0_markWanted_2 (nI n) (fun I5 => (∃ f : Nat, wX0_markWanted_33 (nI n) post f 23 I5)) post f (nI i) I2) (fun i I2 => (∀ b, b ≠ 28 → I2 b = I b) ∧ ∀ k, k < i → I2 28 k = bI (decide (k = n))) 24 ?_ ?_ 0 I (Nat.zero_le _) ⟨fun _ _ => rfl, fun c hc => absurd hc (Nat.not_lt_zero c)⟩
  · rintro f I2 ⟨hF, hA⟩
    show wX0_markWanted_2 _ _ _ _ _ _
    rw [wX0_markWanted_2]
    simp (disch := omega) only [fa_lit, nI_ltI, nI_leI, nI_eq, nI_add, pk_mul, nI_clamp, vp_in_nI, l_uk, l_n1, l_n1e, l_n1e2, l_n1l, l_n1l2, l_n1l3, not_true_eq_false, not_false_eq_true, true_implies, false_implies, true_and, and_true, and_self, forall_eq, bI_t, bI_f, Bool.false_eq_true, or_true, true_or, or_false, false_or, s1_ltx, if_true, if_false, Nat.add_zero, Nat.zero_add,  d_leF, d_leT, d_ltF, d_ltT, d_eqF, d_eqT]
    refine lpd (fun f i (I3 : QI) => wX0_markWanted_33 (nI n) post f (sB i) I3) (fun i I3 => i ≤ 24 ∧ (∀ b, b ≠ 28 → I3 b = I b) ∧ ∃ W : Nat → Bool, (∀ k, k < 24 → I3 28 k = bI (W k)) ∧ Wi I P n i W) ?_ ?_ 24 I2 ⟨Nat.le_refl _, hF, fun k => decide (k = n), hA, fun m _ e => ?_, fun m h1 h2 => by omega, fun m h1 h2 => by omega, Or.inl (decide_eq_true rfl)⟩
    · rintro f I3 ⟨-, hF3, W, hW, hi⟩
      show wX0_markWanted_33 _ _ _ _ _
      rw [wX0_markWanted_33, sB_0]
      simp (disch := omega) only [fa_lit, nI_ltI, nI_leI, nI_eq, nI_add, pk_mul, nI_clamp, vp_in_nI, l_uk, l_n1, l_n1e, l_n1e2, l_n1l, l_n1l2, l_n1l3, not_true_eq_false, not_false_eq_true, true_implies, false_implies, true_and, and_true, and_self, forall_eq, bI_t, bI_f, Bool.false_eq_true, or_true, true_or, or_false, false_or, s1_ltx, if_true, if_false, Nat.add_zero, Nat.zero_add,  d_leF, d_leT, d_ltF, d_ltT, d_eqF, d_eqT]
      exact h I3 W hF3 hW hi
    · rintro f i I3 ⟨hi24, hF3, W, hW, w1, w2, w3, w4⟩ hk
      have hP3 : Pc I3 P := Pc_fr hP (fun b h1 h2 => hF3 b (by omega))
      have hWi := hW i (by omega)
      show wX0_markWanted_33 _ _ _ _ _
      rw [wX0_markWanted_33, sB_s]
      have up : ∀ p, Wq I W (i + 1) p → Wq I W i p := fun p z => z.elim Or.inl (fun z => Or.inr ⟨by omega, z.2⟩)
      cases e : W i
      · rw [e] at hWi
        simp (disch := omega) only [hWi, sB_dec, q_u2_s, ne_u2, nr_u2, fa_lit, nI_ltI, nI_leI, nI_eq, nI_add, pk_mul, nI_clamp, vp_in_nI, l_uk, l_n1, l_n1e, l_n1e2, l_n1l, l_n1l2, l_n1l3, not_true_eq_false, not_false_eq_true, true_implies, false_implies, true_and, and_true, and_self, forall_eq, bI_t, bI_f, Bool.false_eq_true, or_true, true_or, or_false, false_or, s1_ltx, if_true, if_false, Nat.add_zero, Nat.zero_add,  d_leF, d_leT, d_ltF, d_ltT, d_eqF, d_eqT]
        refine hk _ ⟨by omega, fr_u2 hF3, W, ar_same (x := false) hW e, w1, fun m h1 h2 h3 => ?_, fun m h1 h2 h3 => ?_, up n w4⟩
        · by_cases e2 : m = i
          · subst e2; rw [e] at h3; cases h3
          · exact w2 m (by omega) h2 h3
        · by_cases e2 : m = i
          · subst e2; rw [e] at h3; cases h3
          · exact ⟨fun z => up _ ((w3 m (by omega) h2 h3).1 z), fun z => up _ ((w3 m (by omega) h2 h3).2 z)⟩
      · rw [e] at hWi
        have hin := w1 i (by omega) e
        have e27 : I3 27 i = I 27 i := by rw [hF3 27 (by omega)]
        have e12 : I3 1 2 = I 1 2 := by rw [hF3 1 (by omega)]
        unfold wX4_changes
        simp (disch := omega) only [hWi, sB_dec, e27, e12, q_u2_s, ne_u2, nr_u2, fa_lit, nI_ltI, nI_leI, nI_eq, nI_add, pk_mul, nI_clamp, vp_in_nI, l_uk, l_n1, l_n1e, l_n1e2, l_n1l, l_n1l2, l_n1l3, not_true_eq_false, not_false_eq_true, true_implies, false_implies, true_and, and_true, and_self, forall_eq, bI_t, bI_f, Bool.false_eq_true, or_true, true_or, or_false, false_or, s1_ltx, if_true, if_false, Nat.add_zero, Nat.zero_add,  d_leF, d_leT, d_ltF, d_ltT, d_eqF, d_eqT]
        refine ⟨fun ec => ?_, fun ec => ?_⟩
        · have dn : ∀ p, Wq I W (i + 1) p → Wq I (fun k => if k = i then false else W k) i p := by
            intro p z
            by_cases e2 : p = i
            · subst e2
              exact Or.inr ⟨Nat.le_refl _, ec⟩
            · rcases z with z | z
              · refine Or.inl ?_
                show (if p = i then false else W p) = true
                rw [if_neg e2]
                exact z
              · exact Or.inr ⟨by omega, z.2⟩
          have hn : ∀ m, (fun k => if k = i then false else W k) m = true → m ≠ i ∧ W m = true := by
            intro m z
            by_cases e2 : m = i
            · subst e2
              simp at z
            · refine ⟨e2, ?_⟩
              simpa [e2] using z
          refine hk _ ⟨by omega, fr_u2 hF3, fun k => if k = i then false else W k, ar_u2 (x := false) hW, fun m h2 h3 => w1 m h2 (hn m h3).2, fun m h1 h2 h3 => ?_, fun m h1 h2 h3 => ?_, dn n w4⟩
          · have := hn m h3
            exact w2 m (by omega) h2 this.2
          · have := hn m h3
            exact ⟨fun z => dn _ ((w3 m (by omega) h2 this.2).1 z), fun z => dn _ ((w3 m (by omega) h2 this.2).2 z)⟩
        · have hP4 : Pc (q_u2 I3 28 i (nI 1)) P := Pc_fr hP3 (fun b h1 h2 => nr_u2 (by omega))
          have hA4 : ∀ k, k < 24 → q_u2 I3 28 i (bI true) 28 k = bI (W k) := ar_same hW e
          obtain ⟨⟨b1, -⟩, -⟩ := hw.2 i (by omega)
          have hab := (hw.2 i (by omega)).ab
          refine p_typeOf hP4 hw (by omega) ?_
          by_cases es : (nd P i).1 = 0
          · have eb : (nd P i).2.2.1 = 0 := ((hw.2 i (by omega)).2.2.1 es).2.1
            simp (disch := omega) only [es, fa_lit, nI_ltI, nI_leI, nI_eq, nI_add, pk_mul, nI_clamp, vp_in_nI, l_uk, l_n1, l_n1e, l_n1e2, l_n1l, l_n1l2, l_n1l3, not_true_eq_false, not_false_eq_true, true_implies, false_implies, true_and, and_true, and_self, forall_eq, bI_t, bI_f, Bool.false_eq_true, or_true, true_or, or_false, false_or, s1_ltx, if_true, if_false, Nat.add_zero, Nat.zero_add,  d_leF, d_leT, d_ltF, d_ltT, d_eqF, d_eqT]
            refine hk _ ⟨by omega, fr_u2 hF3, W, hA4, w1, fun m h1 h2 h3 => ?_, fun m h1 h2 h3 => ?_, up n w4⟩
            · by_cases e2 : m = i
              · subst e2; exact ec
              · exact w2 m (by omega) h2 h3
            · by_cases e2 : m = i
              · subst e2; exact ⟨fun z => absurd es z, fun z => absurd eb z⟩
              · exact ⟨fun z => up _ ((w3 m (by omega) h2 h3).1 z), fun z => up _ ((w3 m (by omega) h2 h3).2 z)⟩
          · have ha := hab.1 es
            simp (disch := omega) only [fa_lit, nI_ltI, nI_leI, nI_eq, nI_add, pk_mul, nI_clamp, vp_in_nI, l_uk, l_n1, l_n1e, l_n1e2, l_n1l, l_n1l2, l_n1l3, not_true_eq_false, not_false_eq_true, true_implies, false_implies, true_and, and_true, and_self, forall_eq, bI_t, bI_f, Bool.false_eq_true, or_true, true_or, or_false, false_or, s1_ltx, if_true, if_false, Nat.add_zero, Nat.zero_add,  d_leF, d_leT, d_ltF, d_ltT, d_eqF, d_eqT]
            refine p_firstOf hP4 hw (by omega) (p_want (by omega) ?_)
            have hP5 : Pc (q_u2 (q_u2 I3 28 i (nI 1)) 28 (nd P i).2.1 (bI true)) P := Pc_fr hP4 (fun b h1 h2 => nr_u2 (by omega))
            have hA5 := ar_u2 (x := true) (i := (nd P i).2.1) hA4
            have hF5 : ∀ b, b ≠ 28 → (q_u2 (q_u2 I3 28 i (nI 1)) 28 (nd P i).2.1 (bI true)) b = I b := fr_u2 (fr_u2 hF3)
            refine p_secondOf hP5 hw (by omega) ?_
            have u1 : ∀ p, W p = true → (fun k => if k = (nd P i).2.1 then true else W k) p = true := by
              intro p z
              show (if p = (nd P i).2.1 then true else W p) = true
              split
              · rfl
              · exact z
            have u2 : ∀ p, (fun k => if k = (nd P i).2.1 then true else W k) p = true → p = (nd P i).2.1 ∨ W p = true := by
              intro p z
              by_cases e2 : p = (nd P i).2.1
              · exact Or.inl e2
              · exact Or.inr (by simpa [e2] using z)
            by_cases eb : (nd P i).2.2.1 = 0
            · rw [eb, sB_0]
              refine p_want_n ?_
              refine hk _ ⟨by omega, hF5, _, hA5, fun m h2 h3 => ?_, fun m h1 h2 h3 => ?_, fun m h1 h2 h3 => ?_, ?_⟩
              · rcases u2 m h3 with z | z
                · omega
                · exact w1 m h2 z
              · rcases u2 m h3 with z | z
                · omega
                · by_cases e2 : m = i
                  · subst e2; exact ec
                  · exact w2 m (by omega) h2 z
              · rcases u2 m h3 with z | z
                · omega
                · by_cases e2 : m = i
                  · subst e2
                    exact ⟨fun _ => Or.inl (if_pos rfl), fun z => absurd eb z⟩
                  · exact ⟨fun z2 => (up _ ((w3 m (by omega) h2 z).1 z2)).elim (fun z => Or.inl (u1 _ z)) Or.inr, fun z2 => (up _ ((w3 m (by omega) h2 z).2 z2)).elim (fun z => Or.inl (u1 _ z)) Or.inr⟩
              · exact (up _ w4).elim (fun z => Or.inl (u1 _ z)) Or.inr
            · have hb := hab.2 eb
              have e9 : sB (nd P i).2.2.1 = nI ((nd P i).2.2.1 - 1) := if_neg eb
              rw [e9]
              refine p_want (by omega) ?_
              have hA6 := ar_u2 (x := true) (i := (nd P i).2.2.1 - 1) hA5
              have v1 : ∀ p, W p = true → (fun k => if k = (nd P i).2.2.1 - 1 then true else (fun k => if k = (nd P i).2.1 then true else W k) k) p = true := by
                intro p z
                show (if p = (nd P i).2.2.1 - 1 then true else (fun k => if k = (nd P i).2.1 then true else W k) p) = true
                split
                · rfl
                · exact u1 p z
              have v2 : ∀ p, (fun k => if k = (nd P i).2.2.1 - 1 then true else (fun k => if k = (nd P i).2.1 then true else W k) k) p = true → p = (nd P i).2.2.1 - 1 ∨ p = (nd P i).2.1 ∨ W p = true := by
                intro p z
                by_cases e2 : p = (nd P i).2.2.1 - 1
                · exact Or.inl e2
                · by_cases e3 : p = (nd P i).2.1
                  · exact Or.inr (Or.inl e3)
                  · exact Or.inr (Or.inr (by simpa [e2, e3] using z))
              have v3 : (fun k => if k = (nd P i).2.2.1 - 1 then true else (fun k => if k = (nd P i).2.1 then true else W k) k) (nd P i).2.1 = true := by
                show (if (nd P i).2.1 = (nd P i).2.2.1 - 1 then true else (if (nd P i).2.1 = (nd P i).2.1 then true else W (nd P i).2.1)) = true
                rw [if_pos rfl]
                split <;> rfl
              refine hk _ ⟨by omega, fr_u2 hF5, _, hA6, fun m h2 h3 => ?_, fun m h1 h2 h3 => ?_, fun m h1 h2 h3 => ?_, ?_⟩
              · rcases v2 m h3 with z | z | z
                · omega
                · omega
                · exact w1 m h2 z
              · rcases v2 m h3 with z | z | z
                · omega
                · omega
                · by_cases e2 : m = i
                  · subst e2; exact ec
                  · exact w2 m (by omega) h2 z
              · rcases v2 m h3 with z | z | z
                · omega
                · omega
                · by_cases e2 : m = i
                  · subst e2
                    exact ⟨fun _ => Or.inl v3, fun _ => Or.inl (if_pos rfl)⟩
                  · exact ⟨fun z2 => (up _ ((w3 m (by omega) h2 z).1 z2)).elim (fun z => Or.inl (v1 _ z)) Or.inr, fun z2 => (up _ ((w3 m (by omega) h2 z).2 z2)).elim (fun z => Or.inl (v1 _ z)) Or.inr⟩
              · exact (up _ w4).elim (fun z => Or.inl (v1 _ z)) Or.inr
    · have := of_decide_eq_true e
      omega
  · rintro f i I2 hi ⟨hF, hA⟩ hk
    show wX0_markWanted_2 _ _ _ _ _ _
    rw [wX0_markWanted_2]
    have hn : ∀ x : Bool, x = decide (i = n) → ∀ k, k < i + 1 → q_u2 I2 28 i (bI x) 28 k = bI (decide (k = n)) := by
      intro x hx k hk2
      by_cases e3 : k = i
      · subst e3
        rw [q_u2_s, hx]
      · rw [q_u2_j I2 _ _ e3]
        exact hA k (by omega)
    simp (disch := omega) only [fa_lit, nI_ltI, nI_leI, nI_eq, nI_add, pk_mul, nI_clamp, vp_in_nI, l_uk, l_n1, l_n1e, l_n1e2, l_n1l, l_n1l2, l_n1l3, not_true_eq_false, not_false_eq_true, true_implies, false_implies, true_and, and_true, and_self, forall_eq, bI_t, bI_f, Bool.false_eq_true, or_true, true_or, or_false, false_or, s1_ltx, if_true, if_false, Nat.add_zero, Nat.zero_add,  d_leF, d_leT, d_ltF, d_ltT, d_eqF, d_eqT]
    refine ⟨fun e => hk _ ⟨fr_u2 hF, hn false (decide_eq_false e).symm⟩, fun e => hk _ ⟨fr_u2 hF, hn true (decide_eq_true e).symm⟩⟩
