/-! pure: the law's loop -/
section LP
theorem LR.nx {i k n : Nat} {Z : Zs} {S : QS} {I : QI} (h : LR i Z S I k n) (hi : i < 512) : LR (i + 1) Z S I k n := by
  obtain ⟨-, a, b, c, u, v, d, e, f⟩ := h
  exact ⟨by omega, a, b.up, c, u, v, d, by omega, by omega⟩
theorem law_loop {X : QX} (hl : X.2.1.2.1 ≤ 3072) : ∀ (f i : Nat) (Z : Zs) (S : QS) (I : QI) (J : QJ) (k n : Nat), i + f = 512 → LR i Z S I k n → wL_loop X (fun r => r = 1) (f + 1) (nI (6 * i)) S I J k n := by
  have h6 : ∀ i : Nat, i ≤ 512 → ¬ Int32.ofNat X.2.1.2.1 - 6 < nI (6 * i) → 6 * i + 6 ≤ X.2.1.2.1 := by
    intro i hi z
    have z2 : ¬ nI X.2.1.2.1 - nI 6 < nI (6 * i) := z
    rw [Int32.lt_iff_toInt_lt, pk_sub_toInt (by omega) (by omega), nI_toInt (by omega)] at z2
    omega
  intro f
  induction f with
  | zero =>
    intro i Z S I J k n hf h
    rw [wL_loop]
    refine ⟨fun _ => rfl, fun z => ?_⟩
    have := h6 i (by omega) z
    omega
  | succ f ih =>
    intro i Z S I J k n hf h
    rw [wL_loop]
    refine ⟨fun _ => rfl, fun z => ?_⟩
    have hi6 := h6 i (by omega) z
    have hK : Kw9 (wL_loop X (fun r => r = 1) (f + 1)) i := fun Z S I J k n h => ih (i + 1) Z S I J k n (by omega) h
    refine ⟨by simp (disch := omega) only [fa_lit, nI_ltI, nI_leI, nI_eq, nI_add, pk_mul, nI_clamp, vp_in_nI, l_uk, l_n1, l_n1e, l_n1e2, l_n1l, l_n1l2, l_n1l3, not_true_eq_false, not_false_eq_true, true_implies, false_implies, true_and, and_true, and_self, forall_eq, bI_t, bI_f, Bool.false_eq_true, or_true, true_or, or_false, false_or, s1_ltx, if_true, if_false, Nat.add_zero, Nat.zero_add,  d_leF, d_leT, d_ltF, d_ltT, d_eqF, d_eqT], fun _ => L_0 hl hi6 hK h, fun _ => L_1 hl hi6 hK h, fun _ => L_2 hl hi6 hK h, fun _ => L_3 hl hi6 hK h, fun _ => L_4 hl hi6 hK h, fun _ => L_5 hl hi6 hK h, fun _ => L_6 hl hi6 hK h, fun _ => L_7 hl hi6 hK h, fun _ => L_8 hl hi6 hK h, fun _ => L_9 hl hi6 hK h, fun _ => L_10 hl hi6 hK h, fun _ => L_11 hl hi6 hK h, fun _ => L_12 hl hi6 hK h, fun _ => L_13 hl hi6 hK h, fun _ => L_14 hl hi6 hK h, fun _ => L_15 hl hi6 hK h, fun _ => L_16 hl hi6 hK h, fun _ => L_17 hl hi6 hK h, fun _ => L_18 hl hi6 hK h, fun _ => L_19 hl hi6 hK h, fun _ => L_20 hl hi6 hK h, fun _ => L_21 hl hi6 hK h, fun _ => L_22 hl hi6 hK h, ?_⟩
    intro _ _ _ _ _ _ _ _ _ _ _ _ _ _ _ _ _ _ _ _ _ _ _ v ev
    have e6 : v = nI (6 * (i + 1)) := by
      rw [ev]
      show nI (6 * i) + nI 6 = _
      rw [nI_add]
      exact congrArg nI (by omega)
    rw [e6]
    exact hK Z S I J k n (h.nx (by omega))
end LP
