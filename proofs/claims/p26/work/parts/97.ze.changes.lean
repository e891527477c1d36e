/-! pure: the calls that may change something -/
def Ex9 (i : Nat) (Z : Zs) (w : QI → (Int32 → QI → Prop) → Prop) : Prop := ∃ (r : Int32) (Z2 : Zs), Rw Z2 ∧ (r = -99999 → Z2 = Z) ∧ Sp9 i (i + 1) Z Z2 r w
theorem ne9 {n : Nat} (h : n < 2 ^ 30) : ¬ nI n = -99999 := fun e => absurd (show nI n < 0 by rw [e]; decide) (nI_nn h)
section CH
variable {Z : Zs} {i m : Nat} {a : Int32}
theorem Sp9.up {Z2 : Zs} {r : Int32} {w : QI → (Int32 → QI → Prop) → Prop} (h : Sp9 i i Z Z2 r w) : Sp9 i (i + 1) Z Z2 r w := fun I post hRc k => h I post hRc (fun I2 h2 hf => k I2 h2.up hf)
theorem Ex9.no {w : QI → (Int32 → QI → Prop) → Prop} (hw : Rw Z) (h : Sp9 i i Z Z (-99999) w) : Ex9 i Z w := ⟨_, Z, hw, fun _ => rfl, h.up⟩
theorem Ex9.rd {w : QI → (Int32 → QI → Prop) → Prop} (hw : Rw Z) (h : ∃ r, Sp9 i i Z Z r w) : Ex9 i Z w := by
  obtain ⟨r, h⟩ := h
  exact ⟨r, Z, hw, fun _ => rfl, h.up⟩
theorem c_budget (hw : Rw Z) (a : Int32) : Ex9 i Z (wL_budget a) := by
  by_cases h1 : a < 1
  · refine Ex9.no hw (fun I post hRc h => ?_)
    unfold wL_budget wX7_budget
    exact ⟨fun _ => ⟨rfl, h I hRc (Fr9.rf I)⟩, fun z => absurd h1 z⟩
  by_cases h2 : a ≤ 100000
  · obtain ⟨T, P, bu, Kk, Vv⟩ := Z
    obtain ⟨hwT, hwP, hd, hbu, hw5⟩ := hw
    replace hbu : bu ≤ 100000 := hbu
    obtain ⟨b, hb, rfl⟩ : ∃ b, b < 100001 ∧ a = nI b := by
      rcases ixc a 100001 (by omega) with y | y | y
      · exact y
      · exact absurd (Int32.lt_of_lt_of_le y (by decide)) h1
      · exact absurd (Int32.lt_of_lt_of_le (show (100000 : Int32) < nI 100001 by decide) (Int32.le_trans y h2)) (Int32.not_lt.2 (Int32.le_refl _))
    refine ⟨nI bu, (T, P, b, Kk, Vv), ⟨hwT, hwP, hd, by show b ≤ 100000; omega, hw5⟩, fun z => absurd z (ne9 (by omega)), fun I post hRc h => ?_⟩
    obtain ⟨c1, c2, ⟨ch, c0, c3⟩, c4, c5, c6⟩ := id hRc
    unfold wL_budget wX7_budget
    refine ⟨fun z => absurd z h1, fun _ => ⟨fun _ v1 e1 I2 e2 => ?_, fun z => absurd h2 z⟩⟩
    have hF : ∀ b, b ≠ 0 → I2 b = I b := fun b hb => by rw [e2, nr_u2 hb]
    rw [e1]
    have c4 : I 0 6 = nI bu := c4
    rw [c4]
    refine h I2 ⟨?_, c2.cg (fun b _ hb => hF b (by omega)), ⟨ch, by omega, c3.cg hwP (by rw [hF 1 (by omega)]) (fun b _ hb => hF b (by omega))⟩, by rw [e2]; exact q_u2_s _ _ _ _, c5.cg (fun b _ hb => hF b (by omega)), c6.cg (fun b _ hb => hF b (by omega))⟩ (fun b hb => hF b (by omega))
    refine ⟨by rw [hF 1 (by omega)]; exact c1.1, fun t ht => ?_⟩
    rw [hF (3 + 3 * t) (by omega), hF (4 + 3 * t) (by omega)]
    exact c1.2 t ht
  · refine Ex9.no hw (fun I post hRc h => ?_)
    unfold wL_budget wX7_budget
    exact ⟨fun z => absurd z h1, fun _ => ⟨fun z => absurd z h2, fun _ => ⟨rfl, h I hRc (Fr9.rf I)⟩⟩⟩
theorem c_table (hw : Rw Z) (hi : i < 512) (a : Int32) : Ex9 i Z (wL_table a) := by
  rcases ixs a (t := 2) (by omega) with ⟨w, w1, w3, rfl⟩ | hx
  · have w3 : w ≤ 3 := by have : w < 4 := w3; omega
    have l1 : ¬ nI w < 1 := by
      show ¬ nI w < nI 1
      rw [nI_ltI (by omega) (by omega)]
      omega
    have l3 : nI w ≤ 3 := by
      show nI w ≤ nI 3
      rw [nI_leI (by omega) (by omega)]
      omega
    by_cases hlt : Z.1.1 < 4
    · obtain ⟨T, P, bu, Kk, Vv⟩ := Z
      obtain ⟨hwT, hwP, hd, hbu, hwK, hwV⟩ := hw
      replace hwT : Tw T := hwT
      replace hwP : Pw T P := hwP
      replace hlt : T.1 < 4 := hlt
      refine ⟨nI T.1, (opT T w, P, bu, Kk, Vv), ⟨opT_w hwT hlt w1 w3, Pw_op hwP, hd, hbu, Kw_op hwK, Vw_op hwV⟩, fun z => absurd z (ne9 (by omega)), fun I post hRc h => ?_⟩
      obtain ⟨c1, c2, ⟨ch, c0, c3⟩, c4, c5, c6⟩ := id hRc
      unfold wL_table wX7_table
      refine ⟨fun z => absurd z l1, fun _ => ⟨fun _ => ?_, fun z => absurd l3 z⟩⟩
      refine p_open c1 hwT (fun _ I2 hT2 hF h12 => ⟨fun _ => ?_, fun z => absurd z (by show ¬ nI T.1 = N1; simp (disch := omega) only [fa_lit, nI_ltI, nI_leI, nI_eq, nI_add, pk_mul, nI_clamp, vp_in_nI, l_uk, l_n1, l_n1e, l_n1e2, l_n1l, l_n1l2, l_n1l3, not_true_eq_false, not_false_eq_true, true_implies, false_implies, true_and, and_true, and_self, forall_eq, bI_t, bI_f, Bool.false_eq_true, or_true, true_or, or_false, false_or, s1_ltx, if_true, if_false, Nat.add_zero, Nat.zero_add,  d_leF, d_leT, d_ltF, d_ltT, d_eqF, d_eqT])⟩) (fun z => absurd hlt z)
      refine h I2 ⟨hT2, c2.cg (fun b h1 _ => hF b (by omega)), ⟨ch, by omega, ?_⟩, by rw [hF 0 (by omega)]; exact c4, c5.cg (fun b h1 _ => hF b (by omega)), c6.cg (fun b h1 _ => hF b (by omega))⟩ (fun b hb => hF b (by omega))
      have c3' : Ca I2 T P ch := c3.cg hwP h12 (fun b h1 _ => hF b (by omega))
      exact Ca_op hwP c3'
    · refine Ex9.no hw (fun I post hRc h => ?_)
      unfold wL_table wX7_table
      exact ⟨fun z => absurd z l1, fun _ => ⟨fun _ => p_open hRc.1 hw.1 (fun z => absurd z hlt) (fun _ => ⟨fun z => absurd rfl z, fun _ => Or.inr ⟨rfl, h I hRc (Fr9.rf I)⟩⟩), fun z => absurd l3 z⟩⟩
  · have hbad : a < 1 ∨ 3 < a := hx.elim (fun z => Or.inl (Int32.lt_of_le_of_lt z (by decide))) (fun z => Or.inr (Int32.lt_of_lt_of_le (by decide) z))
    refine Ex9.no hw (fun I post hRc h => ?_)
    unfold wL_table wX7_table
    exact ⟨fun _ => Or.inl ⟨rfl, h I hRc (Fr9.rf I)⟩, fun z => ⟨fun z2 => absurd hbad (not_or.2 ⟨z, Int32.not_lt.2 z2⟩), fun _ => Or.inl ⟨rfl, h I hRc (Fr9.rf I)⟩⟩⟩
theorem c_add (hw : Rw Z) (hi : i < 512) (a1 a2 a3 a4 : Int32) : Ex9 i Z (wL_add a1 a2 a3 a4) := by
  have hw0 := hw
  obtain ⟨T, P, bu, Kk, Vv⟩ := Z
  obtain ⟨hwT, hwP, hd, hbu, hwK, hwV⟩ := hw
  replace hwT : Tw T := hwT
  have t4 := hwT.1
  rcases ixc a1 T.1 (by omega) with ⟨t, ht, rfl⟩ | hx
  · obtain ⟨t4, w3, m10, w1⟩ := hwT.l ht
    have e6 : (nI (T.2.2.1 t) < (10 : Int32)) = (T.2.2.1 t < 10) := by
      show (_ < nI 10) = _
      rw [nI_ltI (by omega) (by omega)]
    cases eal : alw T t a2 a3 a4
    · refine Ex9.no hw0 (fun I post hRc h => ?_)
      obtain ⟨c1, -⟩ := id hRc
      unfold wL_add wX7_add
      refine find_t c1 hwT ht (b_some (p_allows c1 hwT ht ?_))
      rw [eal]
      exact ⟨fun z => absurd rfl z, fun _ => Or.inr (Or.inl ⟨rfl, h I hRc (Fr9.rf I)⟩)⟩
    · by_cases hlt : T.2.2.1 t < 10
      · refine ⟨nI (T.2.2.1 t + 1), (adT T t a2 a3 a4, P, bu, Kk, Vv), ⟨adT_w hwT ht hlt _ _ _, Pw_tv hwP, hd, hbu, Kw_tv hwK, Vw_tv hwV⟩, fun z => absurd z (ne9 (by omega)), fun I post hRc h => ?_⟩
        obtain ⟨c1, -⟩ := id hRc
        replace c1 : Tc I T := c1
        unfold wL_add wX7_add
        refine find_t c1 hwT ht (b_some (p_allows c1 hwT ht ?_))
        rw [eal]
        refine ⟨fun _ => ?_, fun z => absurd z (by decide)⟩
        unfold wX5_isFull
        rw [(c1.t t4).2, e6]
        refine ⟨fun _ => ⟨fun _ => ?_, fun z => absurd rfl z⟩, fun z => absurd hlt z⟩
        refine p_append c1 hwT ht hlt (fun I5 hT5 hF5 h12 I6 e6 => ?_)
        unfold wX5_count
        have hT6 : Tc I6 (adT T t a2 a3 a4) := by rw [e6]; exact hT5.c1
        have e7 : I6 (3 + 3 * t) 3 = nI (T.2.2.1 t + 1) := by
          rw [(hT6.t t4).2]
          show nI (if t = t then T.2.2.1 t + 1 else T.2.2.1 t) = _
          rw [if_pos rfl]
        have hF6 : ∀ b, 15 ≤ b ∨ b = 0 → I6 b = I b := fun b hb => by rw [e6, nr_u2 (by omega)]; exact hF5 b hb
        show post (I6 (3 + 3 * t) 3) I6
        rw [e7]
        exact h I6 (hRc.chg hi hT6 hF6 (by rw [e6, ← h12]; exact q_u2_s _ _ _ _)) (fun b hb => hF6 b (by omega))
      · refine Ex9.no hw0 (fun I post hRc h => ?_)
        obtain ⟨c1, -⟩ := id hRc
        replace c1 : Tc I T := c1
        unfold wL_add wX7_add
        refine find_t c1 hwT ht (b_some (p_allows c1 hwT ht ?_))
        rw [eal]
        refine ⟨fun _ => ?_, fun z => absurd z (by decide)⟩
        unfold wX5_isFull
        rw [(c1.t t4).2, e6]
        exact ⟨fun z => absurd z hlt, fun _ => ⟨fun z => absurd z (by decide), fun _ => Or.inr (Or.inr ⟨rfl, h I hRc (Fr9.rf I)⟩)⟩⟩
  · refine Ex9.no hw0 (fun I post hRc h => ?_)
    unfold wL_add wX7_add
    exact find_f hRc.1 hwT hx (b_none (Or.inl ⟨rfl, h I hRc (Fr9.rf I)⟩))
theorem c_take (hw : Rw Z) (hi : i < 512) (a1 a2 : Int32) : Ex9 i Z (wL_take a1 a2) := by
  have hw0 := hw
  obtain ⟨T, P, bu, Kk, Vv⟩ := Z
  obtain ⟨hwT, hwP, hd, hbu, hwK, hwV⟩ := hw
  replace hwT : Tw T := hwT
  have t4 := hwT.1
  rcases ixc a1 T.1 (by omega) with ⟨t, ht, rfl⟩ | hx
  · obtain ⟨t4, w3, m10, w1⟩ := hwT.l ht
    rcases ixc a2 (T.2.2.1 t) (by omega) with ⟨r, hr, rfl⟩ | hx
    · refine ⟨nI (T.2.2.1 t - 1), (rmT T t r, P, bu, Kk, Vv), ⟨rmT_w hwT ht, Pw_tv hwP, hd, hbu, Kw_tv hwK, Vw_tv hwV⟩, fun z => absurd z (ne9 (by omega)), fun I post hRc h => ?_⟩
      obtain ⟨c1, -⟩ := id hRc
      replace c1 : Tc I T := c1
      unfold wL_take wX7_take
      refine find_t c1 hwT ht (b_some ?_)
      refine p_hasRow c1 hwT t4 hr ⟨fun _ => ?_, fun z => absurd z (by decide)⟩
      refine p_remove c1 hwT ht hr (fun I5 hT5 hF5 h12 I6 e6 => ?_)
      unfold wX5_count
      have hT6 : Tc I6 (rmT T t r) := by rw [e6]; exact hT5.c1
      have e7 : I6 (3 + 3 * t) 3 = nI (T.2.2.1 t - 1) := by
        rw [(hT6.t t4).2]
        show nI (if t = t then T.2.2.1 t - 1 else T.2.2.1 t) = _
        rw [if_pos rfl]
      have hF6 : ∀ b, 15 ≤ b ∨ b = 0 → I6 b = I b := fun b hb => by rw [e6, nr_u2 (by omega)]; exact hF5 b hb
      show post (I6 (3 + 3 * t) 3) I6
      rw [e7]
      exact h I6 (hRc.chg hi hT6 hF6 (by rw [e6, ← h12]; exact q_u2_s _ _ _ _)) (fun b hb => hF6 b (by omega))
    · refine Ex9.no hw0 (fun I post hRc h => ?_)
      obtain ⟨c1, -⟩ := id hRc
      replace c1 : Tc I T := c1
      unfold wL_take wX7_take
      refine find_t c1 hwT ht (b_some ?_)
      exact p_hasRow_f c1 t4 hx ⟨fun z => absurd rfl z, fun _ => ⟨rfl, h I hRc (Fr9.rf I)⟩⟩
  · refine Ex9.no hw0 (fun I post hRc h => ?_)
    unfold wL_take wX7_take
    exact find_f hRc.1 hwT hx (b_none ⟨rfl, h I hRc (Fr9.rf I)⟩)
/-- a node is found, or made, or there is no room -/
theorem c_made {T : QT} {P : List Nd} {bu : Nat} {Kk Vv : List Q4} (hw : Rw (T, P, bu, Kk, Vv)) {q : Nd} (hq : nW T P P.length q) : ∃ (r : Int32) (P2 : List Nd), Rw (T, P2, bu, Kk, Vv) ∧ (r = -99999 → P2 = P) ∧ ∀ (I : QI) (post : Int32 → QI → Prop) (X : QI → Prop), Rc I (T, P, bu, Kk, Vv) i → (∀ I2, Rc I2 (T, P2, bu, Kk, Vv) (i + 1) → Fr9 I I2 → post r I2) → (∀ I2, post (-99999) I2 → X I2) → wX2_make (nI q.1) (nI q.2.1) (sB q.2.2.1) (nI q.2.2.2.1) (nI q.2.2.2.2.1) q.2.2.2.2.2.1 I (fun r I2 => ((¬ r = (-1) → post r I2) ∧ (r = (-1) → X I2))) := by
  obtain ⟨hwT, hwP, hd, hbu, hwK, hwV⟩ := id hw
  replace hwP : Pw T P := hwP
  have h24 := hwP.1
  have n1 : ∀ x : Nat, x < 25 → ¬ nI x = (-1 : Int32) := fun x hx => by show ¬ nI x = N1; simp (disch := omega) only [fa_lit, nI_ltI, nI_leI, nI_eq, nI_add, pk_mul, nI_clamp, vp_in_nI, l_uk, l_n1, l_n1e, l_n1e2, l_n1l, l_n1l2, l_n1l3, not_true_eq_false, not_false_eq_true, true_implies, false_implies, true_and, and_true, and_self, forall_eq, bI_t, bI_f, Bool.false_eq_true, or_true, true_or, or_false, false_or, s1_ltx, if_true, if_false, Nat.add_zero, Nat.zero_add,  d_leF, d_leT, d_ltF, d_ltT, d_eqF, d_eqT]
  cases e : fnd P q with
  | some i0 =>
    have hi0 : i0 < P.length := (fnd_si e).1
    refine ⟨nI i0, P, hw, fun _ => rfl, fun I post X hRc h hX => ?_⟩
    obtain ⟨c1, c2, -⟩ := id hRc
    refine p_make c1 hwT c2 hwP hq (fun i1 hi1 e1 => ?_) (fun e1 _ => ?_) (fun e1 _ _ _ _ => ?_)
    · cases e.symm.trans e1
      exact ⟨fun _ => h I hRc.up (Fr9.rf I), fun z => absurd z (n1 i0 (by omega))⟩
    · rw [e] at e1; cases e1
    · rw [e] at e1; cases e1
  | none =>
    by_cases el : P.length < 24
    · have hXP := XP.one P q
      refine ⟨nI P.length, P ++ [q], ⟨hwT, Pw_ap hwP hq el, Pd.one hd e, hbu, hwK, hwV⟩, fun z => absurd z (ne9 (by omega)), fun I post X hRc h hX => ?_⟩
      obtain ⟨c1, c2, ⟨ch, c0, c3⟩, c4, c5, c6⟩ := id hRc
      refine p_make c1 hwT c2 hwP hq (fun i1 hi1 e1 => ?_) (fun _ z => absurd z (Nat.ne_of_lt el)) (fun _ _ I2 hP2 hF => ⟨fun _ => ?_, fun z => absurd z (n1 _ (by omega))⟩)
      · rw [e] at e1; cases e1
      · refine h I2 ⟨c1.cg (fun b hb => hF b (by omega)), hP2, ⟨ch, by omega, ?_⟩, by rw [hF 0 (by omega)]; exact c4, c5.cg (fun b h1 _ => hF b (by omega)), c6.cg (fun b h1 _ => hF b (by omega))⟩ (fun b hb => hF b (by omega))
        have c3' : Ca I2 T P ch := c3.cg hwP (by rw [hF 1 (by omega)]) (fun b h1 _ => hF b (by omega))
        exact Ca_x hwP hXP c3'
    · refine ⟨-99999, P, hw, fun _ => rfl, fun I post X hRc h hX => ?_⟩
      obtain ⟨c1, c2, -⟩ := id hRc
      refine p_make c1 hwT c2 hwP hq (fun i1 hi1 e1 => ?_) (fun _ _ => ⟨fun z => absurd rfl z, fun _ => hX I (h I hRc.up (Fr9.rf I))⟩) (fun _ z => absurd z el)
      rw [e] at e1; cases e1
theorem c_scan (hw : Rw Z) (a : Int32) : Ex9 i Z (wL_scan a) := by
  have hw0 := hw
  obtain ⟨T, P, bu, Kk, Vv⟩ := Z
  obtain ⟨hwT, hwP, hd, hbu, hwK, hwV⟩ := hw
  replace hwT : Tw T := hwT
  have t4 := hwT.1
  rcases ixc a T.1 (by omega) with ⟨t, ht, rfl⟩ | hx
  · obtain ⟨t4, w3, m10, w1⟩ := hwT.l ht
    have hq : nW T P P.length (0, t, 0, 0, 0, 0, T.2.1 t) := ⟨⟨by show (0 : Nat) < 5; omega, by show t < 24; omega, by show (0 : Nat) ≤ 24; omega, by show (0 : Nat) < 6; omega, by show (0 : Nat) < 6; omega, w1, by show T.2.1 t ≤ 6; omega⟩, rfl, fun _ => ⟨ht, rfl, rfl, rfl, rfl⟩, fun z => absurd rfl z, fun z => absurd z (by show ¬ (0 : Nat) = 1; omega), fun z => absurd z (by show ¬ (0 : Nat) = 2; omega), fun z => absurd z (by show ¬ (0 : Nat) = 3; omega), fun z => absurd z (by show ¬ (0 : Nat) = 4; omega)⟩
    obtain ⟨r, P2, hw2, he, hm⟩ := c_made (i := i) hw0 hq
    refine ⟨r, (T, P2, bu, Kk, Vv), hw2, fun z => by rw [he z], fun I post hRc h => ?_⟩
    unfold wL_scan wX7_scan
    exact find_t hRc.1 hwT ht (b_some (hm I post _ hRc h (fun I2 h1 => Or.inr ⟨rfl, h1⟩)))
  · refine Ex9.no hw0 (fun I post hRc h => ?_)
    unfold wL_scan wX7_scan
    exact find_f hRc.1 hwT hx (b_none (Or.inl ⟨rfl, h I hRc (Fr9.rf I)⟩))
theorem c_filter (hw : Rw Z) (a1 a2 a3 a4 : Int32) : Ex9 i Z (wL_filter a1 a2 a3 a4) := by
  have hw0 := hw
  obtain ⟨T, P, bu, Kk, Vv⟩ := Z
  obtain ⟨hwT, hwP, hd, hbu, hwK, hwV⟩ := hw
  replace hwP : Pw T P := hwP
  have h24 := hwP.1
  rcases ixc a1 P.length (by omega) with ⟨m, hm, rfl⟩ | hx
  · have w6 := (hwP.2 m hm).1.2.2.2.2.2.2
    have w1 := (hwP.2 m hm).1.2.2.2.2.2.1
    rcases ixc a2 (nd P m).2.2.2.2.2.2 (by omega) with ⟨c, hc, rfl⟩ | hx
    · rcases ixc a3 6 (by omega) with ⟨x, hx6, rfl⟩ | hx
      · have l0 : ¬ nI x < 0 := nI_nn (by omega)
        have l5 : ¬ (5 : Int32) < nI x := by
          show ¬ nI 5 < nI x
          rw [nI_ltI (by omega) (by omega)]
          omega
        have l4 : (nI x < (4 : Int32)) = (x < 4) := by
          show (nI x < nI 4) = _
          rw [nI_ltI (by omega) (by omega)]
        cases hkv : kv a4
        · refine Ex9.no hw0 (fun I post hRc h => ?_)
          unfold wL_filter wX7_filter
          refine p_col hRc.2.1 hwP hm hc ⟨fun _ => ⟨fun z => absurd z l0, fun _ => ⟨fun z => absurd z l5, fun _ => p_isKnownValue ?_⟩⟩, fun z => absurd z (by decide)⟩
          rw [hkv]
          exact ⟨fun z => absurd rfl z, fun _ => Or.inr (Or.inl ⟨rfl, h I hRc (Fr9.rf I)⟩)⟩
        · have hq : nW T P P.length (1, m, 0, x, c, a4, (nd P m).2.2.2.2.2.2) := ⟨⟨by show (1 : Nat) < 5; omega, by show m < 24; omega, by show (0 : Nat) ≤ 24; omega, hx6, by show c < 6; omega, w1, w6⟩, rfl, fun z => absurd z (by show ¬ (1 : Nat) = 0; omega), fun _ => hm, fun _ => ⟨rfl, hc, hkv⟩, fun z => absurd z (by show ¬ (1 : Nat) = 2; omega), fun z => absurd z (by show ¬ (1 : Nat) = 3; omega), fun z => absurd z (by show ¬ (1 : Nat) = 4; omega)⟩
          by_cases hbad : 4 ≤ x ∧ ¬ a4 = 0
          · refine Ex9.no hw0 (fun I post hRc h => ?_)
            unfold wL_filter wX7_filter
            refine p_col hRc.2.1 hwP hm hc ⟨fun _ => ⟨fun z => absurd z l0, fun _ => ⟨fun z => absurd z l5, fun _ => p_isKnownValue ?_⟩⟩, fun z => absurd z (by decide)⟩
            rw [hkv]
            refine ⟨fun _ => ⟨fun z => ?_, fun _ => ⟨fun z => absurd z hbad.2, fun _ => Or.inr (Or.inl ⟨rfl, h I hRc (Fr9.rf I)⟩)⟩⟩, fun z => absurd z (by decide)⟩
            rw [l4] at z
            omega
          · obtain ⟨r, P2, hw2, he, hmk⟩ := c_made (i := i) hw0 hq
            refine ⟨r, (T, P2, bu, Kk, Vv), hw2, fun z => by rw [he z], fun I post hRc h => ?_⟩
            have go := fun X hX => hmk I post X hRc h hX
            unfold wL_filter wX7_filter
            refine p_col hRc.2.1 hwP hm hc ⟨fun _ => ⟨fun z => absurd z l0, fun _ => ⟨fun z => absurd z l5, fun _ => p_isKnownValue ?_⟩⟩, fun z => absurd z (by decide)⟩
            rw [hkv]
            refine ⟨fun _ => ⟨fun _ => go _ (fun I2 h1 => Or.inr (Or.inr ⟨rfl, h1⟩)), fun z => ⟨fun _ => go _ (fun I2 h1 => Or.inr (Or.inr ⟨rfl, h1⟩)), fun z2 => absurd ⟨?_, z2⟩ hbad⟩⟩, fun z => absurd z (by decide)⟩
            rw [l4] at z
            omega
      · refine Ex9.no hw0 (fun I post hRc h => ?_)
        have h9 := h I hRc (Fr9.rf I)
        unfold wL_filter wX7_filter
        exact p_col hRc.2.1 hwP hm hc ⟨fun _ => ⟨fun _ => Or.inr (Or.inl ⟨rfl, h9⟩), fun z => ⟨fun _ => Or.inr (Or.inl ⟨rfl, h9⟩), fun z2 => absurd hx (not_or.2 ⟨z, fun z3 => z2 (Int32.lt_of_lt_of_le (by decide) z3)⟩)⟩⟩, fun z => absurd z (by decide)⟩
    · refine Ex9.no hw0 (fun I post hRc h => ?_)
      unfold wL_filter wX7_filter
      exact p_col_f hRc.2.1 hwP hm hx ⟨fun z => absurd rfl z, fun _ => Or.inl ⟨rfl, h I hRc (Fr9.rf I)⟩⟩
  · refine Ex9.no hw0 (fun I post hRc h => ?_)
    unfold wL_filter wX7_filter
    exact p_col_f1 hRc.2.1 hx ⟨fun z => absurd rfl z, fun _ => Or.inl ⟨rfl, h I hRc (Fr9.rf I)⟩⟩
theorem c_join (hw : Rw Z) (a1 a2 a3 a4 a5 : Int32) : Ex9 i Z (wL_join a1 a2 a3 a4 a5) := by
  have hw0 := hw
  obtain ⟨T, P, bu, Kk, Vv⟩ := Z
  obtain ⟨hwT, hwP, hd, hbu, hwK, hwV⟩ := hw
  replace hwP : Pw T P := hwP
  have h24 := hwP.1
  rcases ixc a1 P.length (by omega) with ⟨p, hp, rfl⟩ | hx
  · have w6 := (hwP.2 p hp).1.2.2.2.2.2.2
    have w1 := (hwP.2 p hp).1.2.2.2.2.2.1
    rcases ixc a3 (nd P p).2.2.2.2.2.2 (by omega) with ⟨c, hc, rfl⟩ | hx
    · rcases ixc a2 P.length (by omega) with ⟨o, ho, rfl⟩ | hx
      · have v6 := (hwP.2 o ho).1.2.2.2.2.2.2
        have v1 := (hwP.2 o ho).1.2.2.2.2.2.1
        rcases ixc a4 (nd P o).2.2.2.2.2.2 (by omega) with ⟨d, hdl, rfl⟩ | hx
        · rcases ixc a5 5 (by omega) with ⟨x, hx5, rfl⟩ | hx
          · have l0 : ¬ nI x < 0 := nI_nn (by omega)
            have l4 : nI x ≤ 4 := by
              show nI x ≤ nI 4
              rw [nI_leI (by omega) (by omega)]
              omega
            have hq : ∀ W : Nat, 1 ≤ W → W ≤ 6 → W = wd T P (2, p, o + 1, x, c, nI d, W) → nW T P P.length (2, p, o + 1, x, c, nI d, W) := fun W g1 g6 g => ⟨⟨by show (2 : Nat) < 5; omega, by show p < 24; omega, by show o + 1 ≤ 24; omega, by show x < 6; omega, by show c < 6; omega, g1, g6⟩, g, fun z => absurd z (by show ¬ (2 : Nat) = 0; omega), fun _ => hp, fun z => absurd z (by show ¬ (2 : Nat) = 1; omega), fun _ => ⟨by show ¬ o + 1 = 0; omega, ho, hx5, hc, d, rfl, hdl⟩, fun z => absurd z (by show ¬ (2 : Nat) = 3; omega), fun z => absurd z (by show ¬ (2 : Nat) = 4; omega)⟩
            by_cases hx2 : x < 2
            · have lw : (nI ((nd P p).2.2.2.2.2.2 + (nd P o).2.2.2.2.2.2) ≤ 6) = ((nd P p).2.2.2.2.2.2 + (nd P o).2.2.2.2.2.2 ≤ 6) := by
                show (_ ≤ nI 6) = _
                rw [nI_leI (by omega) (by omega)]
              by_cases h6 : (nd P p).2.2.2.2.2.2 + (nd P o).2.2.2.2.2.2 ≤ 6
              · obtain ⟨r, P2, hw2, he, hmk⟩ := c_made (i := i) hw0 (hq _ (by omega) h6 (by
                  unfold wd
                  rw [if_neg (by show ¬ (2 : Nat) = 0; omega), if_neg (by show ¬ (2 : Nat) = 3; omega), if_pos ⟨rfl, hx2⟩]
                  rfl))
                refine ⟨r, (T, P2, bu, Kk, Vv), hw2, fun z => by rw [he z], fun I post hRc h => ?_⟩
                unfold wL_join wX7_join
                refine p_col hRc.2.1 hwP hp hc ⟨fun z => absurd z (by decide), fun _ => p_col hRc.2.1 hwP ho hdl ⟨fun _ => ⟨fun z => absurd z l0, fun _ => ⟨fun _ => ?_, fun z => absurd l4 z⟩⟩, fun z => absurd z (by decide)⟩⟩
                refine p_widthJ hRc.2.1 hwP hp ho hx2 ?_
                rw [lw]
                exact ⟨fun _ => hmk I post _ hRc h (fun I2 h1 => Or.inr (Or.inr ⟨rfl, h1⟩)), fun z => absurd h6 z⟩
              · refine Ex9.no hw0 (fun I post hRc h => ?_)
                unfold wL_join wX7_join
                refine p_col hRc.2.1 hwP hp hc ⟨fun z => absurd z (by decide), fun _ => p_col hRc.2.1 hwP ho hdl ⟨fun _ => ⟨fun z => absurd z l0, fun _ => ⟨fun _ => ?_, fun z => absurd l4 z⟩⟩, fun z => absurd z (by decide)⟩⟩
                refine p_widthJ hRc.2.1 hwP hp ho hx2 ?_
                rw [lw]
                exact ⟨fun z => absurd z h6, fun _ => Or.inr (Or.inr ⟨rfl, h I hRc (Fr9.rf I)⟩)⟩
            · obtain ⟨r, P2, hw2, he, hmk⟩ := c_made (i := i) hw0 (hq (nd P p).2.2.2.2.2.2 (by omega) w6 (by
                unfold wd
                rw [if_neg (by show ¬ (2 : Nat) = 0; omega), if_neg (by show ¬ (2 : Nat) = 3; omega), if_neg (fun z => hx2 z.2)]))
              refine ⟨r, (T, P2, bu, Kk, Vv), hw2, fun z => by rw [he z], fun I post hRc h => ?_⟩
              unfold wL_join wX7_join
              refine p_col hRc.2.1 hwP hp hc ⟨fun z => absurd z (by decide), fun _ => p_col hRc.2.1 hwP ho hdl ⟨fun _ => ⟨fun z => absurd z l0, fun _ => ⟨fun _ => ?_, fun z => absurd l4 z⟩⟩, fun z => absurd z (by decide)⟩⟩
              refine p_widthJ2 hRc.2.1 hwP hp (by omega) hx5 ⟨fun _ => hmk I post _ hRc h (fun I2 h1 => Or.inr (Or.inr ⟨rfl, h1⟩)), fun z => absurd ?_ z⟩
              show nI (nd P p).2.2.2.2.2.2 ≤ nI 6
              rw [nI_leI (by omega) (by omega)]
              exact w6
          · refine Ex9.no hw0 (fun I post hRc h => ?_)
            have h9 := h I hRc (Fr9.rf I)
            unfold wL_join wX7_join
            exact p_col hRc.2.1 hwP hp hc ⟨fun z => absurd z (by decide), fun _ => p_col hRc.2.1 hwP ho hdl ⟨fun _ => ⟨fun _ => Or.inr (Or.inl ⟨rfl, h9⟩), fun z => ⟨fun z2 => absurd hx (not_or.2 ⟨z, fun z3 => absurd (Int32.lt_of_lt_of_le (show (4 : Int32) < nI 5 by decide) z3) (Int32.not_lt.2 z2)⟩), fun _ => Or.inr (Or.inl ⟨rfl, h9⟩)⟩⟩, fun z => absurd z (by decide)⟩⟩
        · refine Ex9.no hw0 (fun I post hRc h => ?_)
          unfold wL_join wX7_join
          exact p_col hRc.2.1 hwP hp hc ⟨fun z => absurd z (by decide), fun _ => p_col_f hRc.2.1 hwP ho hx ⟨fun z => absurd rfl z, fun _ => Or.inl ⟨rfl, h I hRc (Fr9.rf I)⟩⟩⟩
      · refine Ex9.no hw0 (fun I post hRc h => ?_)
        unfold wL_join wX7_join
        exact p_col hRc.2.1 hwP hp hc ⟨fun z => absurd z (by decide), fun _ => p_col_f1 hRc.2.1 hx ⟨fun z => absurd rfl z, fun _ => Or.inl ⟨rfl, h I hRc (Fr9.rf I)⟩⟩⟩
    · refine Ex9.no hw0 (fun I post hRc h => ?_)
      unfold wL_join wX7_join
      exact p_col_f hRc.2.1 hwP hp hx ⟨fun _ => Or.inl ⟨rfl, h I hRc (Fr9.rf I)⟩, fun z => absurd rfl z⟩
  · refine Ex9.no hw0 (fun I post hRc h => ?_)
    unfold wL_join wX7_join
    exact p_col_f1 hRc.2.1 hx ⟨fun _ => Or.inl ⟨rfl, h I hRc (Fr9.rf I)⟩, fun z => absurd rfl z⟩
theorem c_group (hw : Rw Z) (a1 a2 a3 a4 : Int32) : Ex9 i Z (wL_group a1 a2 a3 a4) := by
  have hw0 := hw
  obtain ⟨T, P, bu, Kk, Vv⟩ := Z
  obtain ⟨hwT, hwP, hd, hbu, hwK, hwV⟩ := hw
  replace hwP : Pw T P := hwP
  have h24 := hwP.1
  rcases ixc a1 P.length (by omega) with ⟨m, hm, rfl⟩ | hx
  · have w6 := (hwP.2 m hm).1.2.2.2.2.2.2
    have w1 := (hwP.2 m hm).1.2.2.2.2.2.1
    rcases ixc a2 (nd P m).2.2.2.2.2.2 (by omega) with ⟨c, hc, rfl⟩ | hx
    · have hq : ∀ (x d : Nat), x < 5 → d < (nd P m).2.2.2.2.2.2 → nW T P P.length (3, m, 0, x, c, nI d, 2) := fun x d g1 g2 => ⟨⟨by show (3 : Nat) < 5; omega, by show m < 24; omega, by show (0 : Nat) ≤ 24; omega, by show x < 6; omega, by show c < 6; omega, by show 1 ≤ 2; omega, by show 2 ≤ 6; omega⟩, rfl, fun z => absurd z (by show ¬ (3 : Nat) = 0; omega), fun _ => hm, fun z => absurd z (by show ¬ (3 : Nat) = 1; omega), fun z => absurd z (by show ¬ (3 : Nat) = 2; omega), fun _ => ⟨rfl, g1, hc, d, rfl, g2⟩, fun z => absurd z (by show ¬ (3 : Nat) = 4; omega)⟩
      by_cases h0 : a3 = 0
      · subst h0
        by_cases h4 : a4 = 0
        · subst h4
          obtain ⟨r, P2, hw2, he, hmk⟩ := c_made (i := i) hw0 (hq 0 0 (by omega) (by omega))
          refine ⟨r, (T, P2, bu, Kk, Vv), hw2, fun z => by rw [he z], fun I post hRc h => ?_⟩
          unfold wL_group wX7_group
          exact p_col hRc.2.1 hwP hm hc ⟨fun _ => ⟨fun _ => ⟨fun z => absurd z (by decide), fun _ => ⟨fun _ => ⟨fun z => absurd rfl z, fun _ => ⟨fun _ => hmk I post _ hRc h (fun I2 h1 => Or.inr (Or.inr ⟨rfl, h1⟩)), fun z => absurd rfl z⟩⟩, fun z => absurd (by decide) z⟩⟩, fun z => absurd rfl z⟩, fun z => absurd z (by decide)⟩
        · refine Ex9.no hw0 (fun I post hRc h => ?_)
          unfold wL_group wX7_group
          exact p_col hRc.2.1 hwP hm hc ⟨fun _ => ⟨fun _ => ⟨fun z => absurd z (by decide), fun _ => ⟨fun _ => ⟨fun z => absurd rfl z, fun _ => ⟨fun z => absurd z h4, fun _ => Or.inr (Or.inl ⟨rfl, h I hRc (Fr9.rf I)⟩)⟩⟩, fun z => absurd (by decide) z⟩⟩, fun z => absurd rfl z⟩, fun z => absurd z (by decide)⟩
      · rcases ixc a4 (nd P m).2.2.2.2.2.2 (by omega) with ⟨d, hdl, rfl⟩ | hx
        · rcases ixc a3 5 (by omega) with ⟨x, hx5, rfl⟩ | hx
          · have l0 : ¬ nI x < 0 := nI_nn (by omega)
            have l4 : nI x ≤ 4 := by
              show nI x ≤ nI 4
              rw [nI_leI (by omega) (by omega)]
              omega
            obtain ⟨r, P2, hw2, he, hmk⟩ := c_made (i := i) hw0 (hq x d hx5 hdl)
            refine ⟨r, (T, P2, bu, Kk, Vv), hw2, fun z => by rw [he z], fun I post hRc h => ?_⟩
            unfold wL_group wX7_group
            exact p_col hRc.2.1 hwP hm hc ⟨fun _ => ⟨fun z => absurd z h0, fun _ => p_col hRc.2.1 hwP hm hdl ⟨fun _ => ⟨fun z => absurd z l0, fun _ => ⟨fun _ => ⟨fun _ => hmk I post _ hRc h (fun I2 h1 => Or.inr (Or.inr ⟨rfl, h1⟩)), fun z => absurd z h0⟩, fun z => absurd l4 z⟩⟩, fun z => absurd z (by decide)⟩⟩, fun z => absurd z (by decide)⟩
          · refine Ex9.no hw0 (fun I post hRc h => ?_)
            have h9 := h I hRc (Fr9.rf I)
            unfold wL_group wX7_group
            exact p_col hRc.2.1 hwP hm hc ⟨fun _ => ⟨fun z => absurd z h0, fun _ => p_col hRc.2.1 hwP hm hdl ⟨fun _ => ⟨fun _ => Or.inr (Or.inl ⟨rfl, h9⟩), fun z => ⟨fun z2 => absurd hx (not_or.2 ⟨z, fun z3 => absurd (Int32.lt_of_lt_of_le (show (4 : Int32) < nI 5 by decide) z3) (Int32.not_lt.2 z2)⟩), fun _ => Or.inr (Or.inl ⟨rfl, h9⟩)⟩⟩, fun z => absurd z (by decide)⟩⟩, fun z => absurd z (by decide)⟩
        · refine Ex9.no hw0 (fun I post hRc h => ?_)
          unfold wL_group wX7_group
          exact p_col hRc.2.1 hwP hm hc ⟨fun _ => ⟨fun z => absurd z h0, fun _ => p_col_f hRc.2.1 hwP hm hx ⟨fun z => absurd rfl z, fun _ => Or.inl ⟨rfl, h I hRc (Fr9.rf I)⟩⟩⟩, fun z => absurd z (by decide)⟩
    · refine Ex9.no hw0 (fun I post hRc h => ?_)
      unfold wL_group wX7_group
      exact p_col_f hRc.2.1 hwP hm hx ⟨fun z => absurd rfl z, fun _ => Or.inl ⟨rfl, h I hRc (Fr9.rf I)⟩⟩
  · refine Ex9.no hw0 (fun I post hRc h => ?_)
    unfold wL_group wX7_group
    exact p_col_f1 hRc.2.1 hx ⟨fun z => absurd rfl z, fun _ => Or.inl ⟨rfl, h I hRc (Fr9.rf I)⟩⟩
theorem c_bag (hw : Rw Z) (a1 a2 a3 : Int32) : Ex9 i Z (wL_bag a1 a2 a3) := by
  have hw0 := hw
  obtain ⟨T, P, bu, Kk, Vv⟩ := Z
  obtain ⟨hwT, hwP, hd, hbu, hwK, hwV⟩ := hw
  replace hwP : Pw T P := hwP
  have h24 := hwP.1
  rcases ixc a1 P.length (by omega) with ⟨p, hp, rfl⟩ | hx
  · have w6 := (hwP.2 p hp).1.2.2.2.2.2.2
    have w1 := (hwP.2 p hp).1.2.2.2.2.2.1
    rcases ixc a2 P.length (by omega) with ⟨o, ho, rfl⟩ | hx
    · have v6 := (hwP.2 o ho).1.2.2.2.2.2.2
      rcases ixc a3 4 (by omega) with ⟨x, hx4, rfl⟩ | hx
      · have l0 : ¬ nI x < 0 := nI_nn (by omega)
        have l3 : nI x ≤ 3 := by
          show nI x ≤ nI 3
          rw [nI_leI (by omega) (by omega)]
          omega
        by_cases he : (nd P p).2.2.2.2.2.2 = (nd P o).2.2.2.2.2.2
        · have hq : nW T P P.length (4, p, o + 1, x, 0, 0, (nd P p).2.2.2.2.2.2) := ⟨⟨by show (4 : Nat) < 5; omega, by show p < 24; omega, by show o + 1 ≤ 24; omega, by show x < 6; omega, by show (0 : Nat) < 6; omega, w1, w6⟩, rfl, fun z => absurd z (by show ¬ (4 : Nat) = 0; omega), fun _ => hp, fun z => absurd z (by show ¬ (4 : Nat) = 1; omega), fun z => absurd z (by show ¬ (4 : Nat) = 2; omega), fun z => absurd z (by show ¬ (4 : Nat) = 3; omega), fun _ => ⟨by show ¬ o + 1 = 0; omega, ho, hx4, rfl, rfl, he.symm⟩⟩
          obtain ⟨r, P2, hw2, he2, hmk⟩ := c_made (i := i) hw0 hq
          refine ⟨r, (T, P2, bu, Kk, Vv), hw2, fun z => by rw [he2 z], fun I post hRc h => ?_⟩
          unfold wL_bag wX7_bag
          refine p_has hRc.2.1 hwP hp ⟨fun z => absurd z (by decide), fun _ => p_has hRc.2.1 hwP ho ⟨fun _ => ⟨fun z => absurd z l0, fun _ => ⟨fun _ => p_widthOf hRc.2.1 hwP hp (p_widthOf hRc.2.1 hwP ho ⟨fun _ => hmk I post _ hRc h (fun I2 h1 => Or.inr (Or.inr ⟨rfl, h1⟩)), fun z => absurd (by rw [he]) z⟩), fun z => absurd l3 z⟩⟩, fun z => absurd z (by decide)⟩⟩
        · refine Ex9.no hw0 (fun I post hRc h => ?_)
          unfold wL_bag wX7_bag
          refine p_has hRc.2.1 hwP hp ⟨fun z => absurd z (by decide), fun _ => p_has hRc.2.1 hwP ho ⟨fun _ => ⟨fun z => absurd z l0, fun _ => ⟨fun _ => p_widthOf hRc.2.1 hwP hp (p_widthOf hRc.2.1 hwP ho ⟨fun z => absurd ?_ he, fun _ => Or.inr (Or.inr ⟨rfl, h I hRc (Fr9.rf I)⟩)⟩), fun z => absurd l3 z⟩⟩, fun z => absurd z (by decide)⟩⟩
          replace z : nI (nd P p).2.2.2.2.2.2 = nI (nd P o).2.2.2.2.2.2 := z
          rw [nI_eq (by omega) (by omega)] at z
          exact z
      · refine Ex9.no hw0 (fun I post hRc h => ?_)
        have h9 := h I hRc (Fr9.rf I)
        unfold wL_bag wX7_bag
        exact p_has hRc.2.1 hwP hp ⟨fun z => absurd z (by decide), fun _ => p_has hRc.2.1 hwP ho ⟨fun _ => ⟨fun _ => Or.inr (Or.inl ⟨rfl, h9⟩), fun z => ⟨fun z2 => absurd hx (not_or.2 ⟨z, fun z3 => absurd (Int32.lt_of_lt_of_le (show (3 : Int32) < nI 4 by decide) z3) (Int32.not_lt.2 z2)⟩), fun _ => Or.inr (Or.inl ⟨rfl, h9⟩)⟩⟩, fun z => absurd z (by decide)⟩⟩
    · refine Ex9.no hw0 (fun I post hRc h => ?_)
      unfold wL_bag wX7_bag
      exact p_has hRc.2.1 hwP hp ⟨fun z => absurd z (by decide), fun _ => p_has_f hRc.2.1 hx ⟨fun z => absurd rfl z, fun _ => Or.inl ⟨rfl, h I hRc (Fr9.rf I)⟩⟩⟩
  · refine Ex9.no hw0 (fun I post hRc h => ?_)
    unfold wL_bag wX7_bag
    exact p_has_f hRc.2.1 hx ⟨fun _ => Or.inl ⟨rfl, h I hRc (Fr9.rf I)⟩, fun z => absurd rfl z⟩
theorem c_link (hw : Rw Z) (a1 a2 a3 a4 : Int32) : Ex9 i Z (wL_link a1 a2 a3 a4) := by
  have hw0 := hw
  obtain ⟨T, P, bu, Kk, Vv⟩ := Z
  obtain ⟨hwT, hwP, hd, hbu, hwK, hwV⟩ := hw
  replace hwT : Tw T := hwT
  replace hwP : Pw T P := hwP
  replace hwK : Kw T Kk := hwK
  have t4 := hwT.1
  have l6 := hwK.1
  rcases ixc a1 T.1 (by omega) with ⟨t, ht, rfl⟩ | hx
  · obtain ⟨t4, w3, m10, w1⟩ := hwT.l ht
    rcases ixc a2 (T.2.1 t) (by omega) with ⟨c, hc, rfl⟩ | hx
    · rcases ixc a3 T.1 (by omega) with ⟨o, ho, rfl⟩ | hx
      · obtain ⟨o4, v3, n10, v1⟩ := hwT.l ho
        rcases ixc a4 (T.2.1 o) (by omega) with ⟨d, hdl, rfl⟩ | hx
        · by_cases heq : nI t = nI o
          · refine Ex9.no hw0 (fun I post hRc h => ?_)
            unfold wL_link wX7_link
            exact p_hcol hRc.1 hwT ht hc ⟨fun z => absurd z (by decide), fun _ => p_hcol hRc.1 hwT ho hdl ⟨fun _ => ⟨fun z => absurd heq z, fun _ => Or.inr (Or.inl ⟨rfl, h I hRc (Fr9.rf I)⟩)⟩, fun z => absurd z (by decide)⟩⟩
          · have e6 : (nI Kk.length < (6 : Int32)) = (Kk.length < 6) := by
              show (nI Kk.length < nI 6) = _
              rw [nI_ltI (by omega) (by omega)]
            by_cases hlt : Kk.length < 6
            · have hq : q4W T (t, o, c, d) := ⟨ht, ho, hc, hdl⟩
              refine ⟨nI (Kk.length + 1), (T, P, bu, Kk ++ [(t, o, c, d)], Vv), ⟨hwT, hwP, hd, hbu, ⟨by rw [List.length_append]; exact hlt, q4_ap hwK.2 hq⟩, hwV⟩, fun z => absurd z (ne9 (by omega)), fun I post hRc h => ?_⟩
              obtain ⟨c1, c2, ⟨ch, c0, c3⟩, c4, c5, c6⟩ := id hRc
              replace c5 : Kc I Kk := c5
              unfold wL_link wX7_link
              refine p_hcol c1 hwT ht hc ⟨fun z => absurd z (by decide), fun _ => p_hcol c1 hwT ho hdl ⟨fun _ => ⟨fun _ => ?_, fun z => absurd z heq⟩, fun z => absurd z (by decide)⟩⟩
              unfold wX1_isFull
              rw [c5.1, e6]
              refine ⟨fun _ => ⟨fun _ => ?_, fun z => absurd rfl z⟩, fun z => absurd hlt z⟩
              exact p_lap c5 hlt (fun I2 hK2 hF => h I2 ⟨c1.cg (fun b hb => hF b (by omega)), c2.cg (fun b h1 h2 => hF b (by omega)), ⟨ch, by omega, c3.cg hwP (by rw [hF 1 (by omega)]) (fun b h1 h2 => hF b (by omega))⟩, by rw [hF 0 (by omega)]; exact c4, hK2, c6.cg (fun b h1 h2 => hF b (by omega))⟩ (fun b hb => hF b (by omega)))
            · refine Ex9.no hw0 (fun I post hRc h => ?_)
              obtain ⟨c1, c2, c3, c4, c5, c6⟩ := id hRc
              replace c5 : Kc I Kk := c5
              unfold wL_link wX7_link
              refine p_hcol c1 hwT ht hc ⟨fun z => absurd z (by decide), fun _ => p_hcol c1 hwT ho hdl ⟨fun _ => ⟨fun _ => ?_, fun z => absurd z heq⟩, fun z => absurd z (by decide)⟩⟩
              unfold wX1_isFull
              rw [c5.1, e6]
              exact ⟨fun z => absurd z hlt, fun _ => ⟨fun z => absurd z (by decide), fun _ => Or.inr (Or.inr ⟨rfl, h I hRc (Fr9.rf I)⟩)⟩⟩
        · refine Ex9.no hw0 (fun I post hRc h => ?_)
          unfold wL_link wX7_link
          exact p_hcol hRc.1 hwT ht hc ⟨fun z => absurd z (by decide), fun _ => p_hcol_f2 hRc.1 hwT ho hx ⟨fun z => absurd rfl z, fun _ => Or.inl ⟨rfl, h I hRc (Fr9.rf I)⟩⟩⟩
      · refine Ex9.no hw0 (fun I post hRc h => ?_)
        unfold wL_link wX7_link
        exact p_hcol hRc.1 hwT ht hc ⟨fun z => absurd z (by decide), fun _ => p_hcol_f1 hRc.1 hwT hx ⟨fun z => absurd rfl z, fun _ => Or.inl ⟨rfl, h I hRc (Fr9.rf I)⟩⟩⟩
    · refine Ex9.no hw0 (fun I post hRc h => ?_)
      unfold wL_link wX7_link
      exact p_hcol_f2 hRc.1 hwT ht hx ⟨fun _ => Or.inl ⟨rfl, h I hRc (Fr9.rf I)⟩, fun z => absurd rfl z⟩
  · refine Ex9.no hw0 (fun I post hRc h => ?_)
    unfold wL_link wX7_link
    exact p_hcol_f1 hRc.1 hwT hx ⟨fun _ => Or.inl ⟨rfl, h I hRc (Fr9.rf I)⟩, fun z => absurd rfl z⟩
theorem c_view (hw : Rw Z) (a1 a2 a3 a4 : Int32) : Ex9 i Z (wL_view a1 a2 a3 a4) := by
  have hw0 := hw
  obtain ⟨T, P, bu, Kk, Vv⟩ := Z
  obtain ⟨hwT, hwP, hd, hbu, hwK, hwV⟩ := hw
  replace hwT : Tw T := hwT
  replace hwP : Pw T P := hwP
  replace hwV : Vw T Vv := hwV
  have t4 := hwT.1
  have l4 := hwV.1
  rcases ixc a1 T.1 (by omega) with ⟨t, ht, rfl⟩ | hx
  · obtain ⟨t4, w3, m10, w1⟩ := hwT.l ht
    rcases ixc a3 (T.2.1 t) (by omega) with ⟨c, hc, rfl⟩ | hx
    · rcases ixc a2 T.1 (by omega) with ⟨o, ho, rfl⟩ | hx
      · obtain ⟨o4, v3, n10, v1⟩ := hwT.l ho
        rcases ixc a4 (T.2.1 o) (by omega) with ⟨d, hdl, rfl⟩ | hx
        · by_cases heq : nI t = nI o
          · refine Ex9.no hw0 (fun I post hRc h => ?_)
            unfold wL_view wX7_view
            exact p_hcol hRc.1 hwT ht hc ⟨fun z => absurd z (by decide), fun _ => p_hcol hRc.1 hwT ho hdl ⟨fun _ => ⟨fun z => absurd heq z, fun _ => Or.inr (Or.inl ⟨rfl, h I hRc (Fr9.rf I)⟩)⟩, fun z => absurd z (by decide)⟩⟩
          · by_cases hlt : Vv.length < 4
            · have hq : q4W T (t, o, c, d) := ⟨ht, ho, hc, hdl⟩
              refine ⟨nI Vv.length, (T, P, bu, Kk, Vv ++ [(t, o, c, d)]), ⟨hwT, hwP, hd, hbu, hwK, ⟨by rw [List.length_append]; exact hlt, q4_ap hwV.2 hq⟩⟩, fun z => absurd z (ne9 (by omega)), fun I post hRc h => ?_⟩
              obtain ⟨c1, c2, ⟨ch, c0, c3⟩, c4, c5, c6⟩ := id hRc
              replace c6 : Vc I Vv := c6
              unfold wL_view wX7_view
              refine p_hcol c1 hwT ht hc ⟨fun z => absurd z (by decide), fun _ => p_hcol c1 hwT ho hdl ⟨fun _ => ⟨fun _ => ?_, fun z => absurd z heq⟩, fun z => absurd z (by decide)⟩⟩
              exact p_vap c6 hlt (fun I2 hK2 hF => ⟨fun _ => h I2 ⟨c1.cg (fun b hb => hF b (by omega)), c2.cg (fun b h1 h2 => hF b (by omega)), ⟨ch, by omega, c3.cg hwP (by rw [hF 1 (by omega)]) (fun b h1 h2 => hF b (by omega))⟩, by rw [hF 0 (by omega)]; exact c4, c5.cg (fun b h1 h2 => hF b (by omega)), hK2⟩ (fun b hb => hF b (by omega)), fun z => absurd z (by show ¬ nI Vv.length = N1; simp (disch := omega) only [fa_lit, nI_ltI, nI_leI, nI_eq, nI_add, pk_mul, nI_clamp, vp_in_nI, l_uk, l_n1, l_n1e, l_n1e2, l_n1l, l_n1l2, l_n1l3, not_true_eq_false, not_false_eq_true, true_implies, false_implies, true_and, and_true, and_self, forall_eq, bI_t, bI_f, Bool.false_eq_true, or_true, true_or, or_false, false_or, s1_ltx, if_true, if_false, Nat.add_zero, Nat.zero_add,  d_leF, d_leT, d_ltF, d_ltT, d_eqF, d_eqT])⟩)
            · have e9 : Vv.length = 4 := by omega
              refine Ex9.no hw0 (fun I post hRc h => ?_)
              obtain ⟨c1, c2, c3, c4, c5, c6⟩ := id hRc
              replace c6 : Vc I Vv := c6
              unfold wL_view wX7_view
              refine p_hcol c1 hwT ht hc ⟨fun z => absurd z (by decide), fun _ => p_hcol c1 hwT ho hdl ⟨fun _ => ⟨fun _ => ?_, fun z => absurd z heq⟩, fun z => absurd z (by decide)⟩⟩
              unfold wX6_append
              rw [c6.1, e9]
              exact ⟨fun z => absurd z (by decide), fun _ => ⟨fun z => absurd rfl z, fun _ => Or.inr (Or.inr ⟨rfl, h I hRc (Fr9.rf I)⟩)⟩⟩
        · refine Ex9.no hw0 (fun I post hRc h => ?_)
          unfold wL_view wX7_view
          exact p_hcol hRc.1 hwT ht hc ⟨fun z => absurd z (by decide), fun _ => p_hcol_f2 hRc.1 hwT ho hx ⟨fun z => absurd rfl z, fun _ => Or.inl ⟨rfl, h I hRc (Fr9.rf I)⟩⟩⟩
      · refine Ex9.no hw0 (fun I post hRc h => ?_)
        unfold wL_view wX7_view
        exact p_hcol hRc.1 hwT ht hc ⟨fun z => absurd z (by decide), fun _ => p_hcol_f1 hRc.1 hwT hx ⟨fun z => absurd rfl z, fun _ => Or.inl ⟨rfl, h I hRc (Fr9.rf I)⟩⟩⟩
    · refine Ex9.no hw0 (fun I post hRc h => ?_)
      unfold wL_view wX7_view
      exact p_hcol_f2 hRc.1 hwT ht hx ⟨fun _ => Or.inl ⟨rfl, h I hRc (Fr9.rf I)⟩, fun z => absurd rfl z⟩
  · refine Ex9.no hw0 (fun I post hRc h => ?_)
    unfold wL_view wX7_view
    exact p_hcol_f1 hRc.1 hwT hx ⟨fun _ => Or.inl ⟨rfl, h I hRc (Fr9.rf I)⟩, fun z => absurd rfl z⟩
theorem Rc.rw9 {I I2 : QI} {T : QT} {P P2 : List Nd} {bu : Nat} {Kk Vv : List Q4} (h : Rc I (T, P, bu, Kk, Vv) i) (hwP : Pw T P) (hx : XP P P2) (hP2 : Pc I2 P2) (hF : ∀ b, b < 15 ∨ (23 ≤ b ∧ b < 30) ∨ 37 ≤ b → I2 b = I b) : Rc I2 (T, P2, bu, Kk, Vv) i := by
  obtain ⟨c1, c2, ⟨ch, c0, c3⟩, c4, c5, c6⟩ := h
  refine ⟨c1.cg (fun b hb => hF b (by omega)), hP2, ⟨ch, c0, ?_⟩, by rw [hF 0 (by omega)]; exact c4, c5.cg (fun b h1 _ => hF b (by omega)), c6.cg (fun b h1 _ => hF b (by omega))⟩
  have c3' : Ca I2 T P ch := c3.cg hwP (by rw [hF 1 (by omega)]) (fun b h1 _ => hF b (by omega))
  exact Ca_x hwP hx c3'
theorem c_rewrite_t {r : Nat} {T : QT} {P P2 : List Nd} {bu : Nat} {Kk Vv : List Q4} (hw : Rw (T, P, bu, Kk, Vv)) (hm : m < P.length) (er : rwS (m + 1) P m [] = some (r, P2)) : Rw (T, P2, bu, Kk, Vv) ∧ r < P2.length ∧ Sp9 i i (T, P, bu, Kk, Vv) (T, P2, bu, Kk, Vv) (nI r) (wL_rewrite (nI m)) := by
  obtain ⟨hwT, hwP, hd, hbu, hwK, hwV⟩ := hw
  replace hwP : Pw T P := hwP
  obtain ⟨w2, d2, x2, r2, -⟩ := rw_ok hwP hd hm (fun e he => by cases he) er
  have r24 := w2.1
  refine ⟨⟨hwT, w2, d2, hbu, hwK, hwV⟩, r2, fun I post hRc h => ?_⟩
  unfold wL_rewrite wX7_rewrite
  refine p_has hRc.2.1 hwP hm ⟨fun _ => ?_, fun z => absurd z (by decide)⟩
  refine p_rewritten hRc.1 hwT hRc.2.1 hwP hd hm (fun r0 P0 I2 er0 hP2 hF => ?_) (fun I2 er0 hP2 hF => ?_)
  · cases er.symm.trans er0
    exact ⟨fun _ => h I2 (hRc.rw9 hwP x2 hP2 hF) (fun b hb => hF b (by omega)), fun z => absurd z (by show ¬ nI r = N1; simp (disch := omega) only [fa_lit, nI_ltI, nI_leI, nI_eq, nI_add, pk_mul, nI_clamp, vp_in_nI, l_uk, l_n1, l_n1e, l_n1e2, l_n1l, l_n1l2, l_n1l3, not_true_eq_false, not_false_eq_true, true_implies, false_implies, true_and, and_true, and_self, forall_eq, bI_t, bI_f, Bool.false_eq_true, or_true, true_or, or_false, false_or, s1_ltx, if_true, if_false, Nat.add_zero, Nat.zero_add,  d_leF, d_leT, d_ltF, d_ltT, d_eqF, d_eqT])⟩
  · rw [er] at er0
    cases er0
theorem c_rewrite_n {T : QT} {P : List Nd} {bu : Nat} {Kk Vv : List Q4} (hw : Rw (T, P, bu, Kk, Vv)) (hm : m < P.length) (er : rwS (m + 1) P m [] = none) : Sp9 i i (T, P, bu, Kk, Vv) (T, P, bu, Kk, Vv) (-99999) (wL_rewrite (nI m)) := by
  obtain ⟨hwT, hwP, hd, hbu, hwK, hwV⟩ := hw
  replace hwP : Pw T P := hwP
  intro I post hRc h
  unfold wL_rewrite wX7_rewrite
  refine p_has hRc.2.1 hwP hm ⟨fun _ => ?_, fun z => absurd z (by decide)⟩
  refine p_rewritten hRc.1 hwT hRc.2.1 hwP hd hm (fun r0 P0 I2 er0 hP2 hF => ?_) (fun I2 er0 hP2 hF => ?_)
  · rw [er] at er0
    cases er0
  · exact ⟨fun z => absurd rfl z, fun _ => Or.inr ⟨rfl, h I2 (hRc.rw9 hwP (XP.rf P) hP2 hF) (fun b hb => hF b (by omega))⟩⟩
theorem c_rewrite_f (hx : a < 0 ∨ nI Z.2.1.length ≤ a) : Sp9 i i Z Z (-99999) (wL_rewrite a) := by
  intro I post hRc h
  unfold wL_rewrite wX7_rewrite
  exact p_has_f hRc.2.1 hx ⟨fun z => absurd rfl z, fun _ => Or.inl ⟨rfl, h I hRc (Fr9.rf I)⟩⟩
theorem c_rewrite (hw : Rw Z) (a : Int32) : Ex9 i Z (wL_rewrite a) := by
  obtain ⟨T, P, bu, Kk, Vv⟩ := Z
  have h24 : P.length ≤ 24 := hw.2.1.1
  rcases ixc a P.length (by omega) with ⟨m, hm, rfl⟩ | hx
  · cases er : rwS (m + 1) P m [] with
    | none => exact Ex9.no hw (c_rewrite_n hw hm er)
    | some q =>
      obtain ⟨h1, h2, h3⟩ := c_rewrite_t (i := i) hw hm (r := q.1) (P2 := q.2) er
      have l24 : q.2.length ≤ 24 := h1.2.1.1
      exact ⟨_, _, h1, fun z => absurd z (ne9 (by omega)), h3.up⟩
  · exact Ex9.no hw (c_rewrite_f hx)
end CH
