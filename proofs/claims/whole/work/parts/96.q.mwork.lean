/-! pure: the reference works a node out -/
theorem jN_add (a b : Nat) : Int64.ofNat a + Int64.ofNat b = Int64.ofNat (a + b) := (Int64.ofNat_add a b).symm
theorem nI_64 {a : Nat} (h : a < 2 ^ 31) : (nI a).toInt64 = Int64.ofNat a := by
  refine Int64.toInt_inj.mp ?_
  rw [lg_ofNat_toInt (by omega), Int32.toInt_toInt64, nI_toInt h]
theorem jN_lt {a b : Nat} (ha : a < 2 ^ 62) (hb : b < 2 ^ 62) : (Int64.ofNat a < Int64.ofNat b) = (a < b) := by
  rw [Int64.lt_iff_toInt_lt, lg_ofNat_toInt (by omega), lg_ofNat_toInt (by omega)]
  exact propext ⟨fun h => by omega, fun h => by omega⟩
theorem jN_32 {v : Nat} (h : v < 2 ^ 31) : (Int64.ofNat v).toInt32 = nI v := by
  refine Int32.toInt_inj.mp ?_
  rw [nI_toInt h, Int64.toInt_toInt32, lg_ofNat_toInt (by omega)]
  unfold Int.bmod
  simp only
  split <;> omega
theorem ddN_le {R A : List (List Int32)} : ∀ i, (ddN R A i).length ≤ R.length + i
  | 0 => Nat.le_refl _
  | i + 1 => by
    have := ddN_le (R := R) (A := A) i
    rw [ddN]
    split
    · omega
    · rw [List.length_append]
      show _ + 1 ≤ _
      omega
theorem fil_l {T : QT} {q : Nd} {wb : Nat} {A B : List (List Int32)} (hA : A.length ≤ 200) (hB : B.length ≤ 200) (hT : q.1 = 0 → T.2.2.1 q.2.1 ≤ 10) : (fil T q wb A B).length ≤ 41000 := by
  unfold fil
  split
  · rename_i h
    rw [flS_l]
    have := hT h
    omega
  · split
    · have := flF_le q.2.2.2.1 q.2.2.2.2.1 q.2.2.2.2.2.1 A A.length
      omega
    · split
      · split
        · rename_i h
          have := flJ_l (c := q.2.2.2.2.1) (d := q.2.2.2.2.2.1.toNatClampNeg) (wb := wb) (A := A) h hB A.length
          omega
        · have := flT_le q.2.2.2.1 q.2.2.2.2.1 q.2.2.2.2.2.1.toNatClampNeg A B A.length
          omega
      · split
        · have := gpN_le q.2.2.2.1 q.2.2.2.2.1 q.2.2.2.2.2.1.toNatClampNeg A A.length
          omega
        · split
          · rw [List.length_append]
            omega
          · split
            · have h1 := ddN_le (R := ddN [] A A.length) (A := B) B.length
              have h2 := ddN_le (R := []) (A := A) A.length
              have h3 : (([] : List (List Int32))).length = 0 := rfl
              omega
            · have := kp_le A (tkm A B B.length) (decide (q.2.2.2.1 = 2)) A.length
              omega
theorem m_give {I : QI} {T : QT} {P : List Nd} (hT : Tm I T) (hwT : Tw T) (hP : Pm I P) (hw : Pw T P) {n : Nat} {A B : List (List Int32)} (hn : n < P.length) (hA : (nd P n).1 ≠ 0 → Hm I (nd P n).2.1 A (nd P (nd P n).2.1).2.2.2.2.2.2) (hB : (nd P n).2.2.1 ≠ 0 → Hm I ((nd P n).2.2.1 - 1) B (nd P ((nd P n).2.2.1 - 1)).2.2.2.2.2.2) (lA : A.length ≤ 200) (lB : B.length ≤ 200) (hR : Hm I n [] (nd P n).2.2.2.2.2.2) {post : QI → Prop} (h : ∀ I2, FM n I I2 → Hm I2 n (fil T (nd P n) (nd P ((nd P n).2.2.1 - 1)).2.2.2.2.2.2 A B) (nd P n).2.2.2.2.2.2 → post I2) : wX8_give (nI n) I post := by
  have h24 := hw.1
  have q := hP.2 n hn
  obtain ⟨⟨b1, b2, b3, b4, b5, b6, b7⟩, hwd, c0, c1, c2, c3, c4, c5⟩ := hw.2 n hn
  have wn6 := (hw.2 n hn).1.2.2.2.2.2.2
  unfold wd at hwd
  unfold wX8_give
  rcases (show (nd P n).1 = 0 ∨ (nd P n).1 = 1 ∨ (nd P n).1 = 2 ∨ (nd P n).1 = 3 ∨ (nd P n).1 = 4 by omega) with e | e | e | e | e
  · rw [if_pos e] at hwd
    have ef : ∀ wb, fil T (nd P n) wb A B = flS T (nd P n).2.1 (T.2.2.1 (nd P n).2.1) := fun wb => if_pos e
    rw [ef] at h
    simp (disch := omega) only [q.1, e, fa_lit, nI_ltI, nI_leI, nI_eq, nI_add, pk_mul, nI_clamp, vp_in_nI, l_uk, l_n1, l_n1e, l_n1e2, l_n1l, l_n1l2, l_n1l3, not_true_eq_false, not_false_eq_true, true_implies, false_implies, true_and, and_true, and_self, forall_eq, bI_t, bI_f, Bool.false_eq_true, or_true, true_or, or_false, false_or, s1_ltx, if_true, if_false, Nat.add_zero, Nat.zero_add,  d_leF, d_leT, d_ltF, d_ltT, d_eqF, d_eqT]
    exact m_giveScan hT hwT hP hw hn (c0 e).1 hwd hR h
  · rw [if_neg (by omega), if_neg (by omega), if_neg (by omega)] at hwd
    have ef : ∀ wb, fil T (nd P n) wb A B = flF (nd P n).2.2.2.1 (nd P n).2.2.2.2.1 (nd P n).2.2.2.2.2.1 A A.length := fun wb => by unfold fil; rw [if_neg (by omega), if_pos e]
    rw [ef] at h
    simp (disch := omega) only [q.1, e, fa_lit, nI_ltI, nI_leI, nI_eq, nI_add, pk_mul, nI_clamp, vp_in_nI, l_uk, l_n1, l_n1e, l_n1e2, l_n1l, l_n1l2, l_n1l3, not_true_eq_false, not_false_eq_true, true_implies, false_implies, true_and, and_true, and_self, forall_eq, bI_t, bI_f, Bool.false_eq_true, or_true, true_or, or_false, false_or, s1_ltx, if_true, if_false, Nat.add_zero, Nat.zero_add,  d_leF, d_leT, d_ltF, d_ltT, d_eqF, d_eqT]
    have hA2 := hA (by omega)
    rw [← hwd] at hA2
    exact m_giveFilter hP hw hn e (c1 (by omega)) b4 (by rw [hwd]; exact (c2 e).2.1) hA2 lA hwd.symm (by omega) hR h
  · rw [if_neg (by omega), if_neg (by omega)] at hwd
    obtain ⟨d1, d2, d3, d4, d, hde, d6⟩ := c3 e
    have ha := c1 (by omega)
    have wa6 := (hw.2 _ (show (nd P n).2.1 < P.length by omega)).1.2.2.2.2.2.2
    have wb6 := (hw.2 _ (show (nd P n).2.2.1 - 1 < P.length by omega)).1.2.2.2.2.2.2
    have hJ : Jm I P n (nd P (nd P n).2.1).2.2.2.2.2.2 (nd P ((nd P n).2.2.1 - 1)).2.2.2.2.2.2 A B := ⟨hn, ha, d1, d2, hA (by omega), hB d1, rfl, rfl, lA, lB, wa6, wb6⟩
    have hdc : (nd P n).2.2.2.2.2.1.toNatClampNeg = d := by rw [hde]; exact nI_clamp (by omega)
    by_cases hk : (nd P n).2.2.2.1 < 2
    · rw [if_pos ⟨e, hk⟩] at hwd
      have ef : ∀ wb, fil T (nd P n) wb A B = flJ (nd P n).2.2.2.1 (nd P n).2.2.2.2.1 d wb A B A.length := fun wb => by unfold fil; rw [if_neg (by omega), if_neg (by omega), if_pos e, if_pos hk, hdc]
      rw [ef] at h
      simp (disch := omega) only [q.1, e, fa_lit, nI_ltI, nI_leI, nI_eq, nI_add, pk_mul, nI_clamp, vp_in_nI, l_uk, l_n1, l_n1e, l_n1e2, l_n1l, l_n1l2, l_n1l3, not_true_eq_false, not_false_eq_true, true_implies, false_implies, true_and, and_true, and_self, forall_eq, bI_t, bI_f, Bool.false_eq_true, or_true, true_or, or_false, false_or, s1_ltx, if_true, if_false, Nat.add_zero, Nat.zero_add,  d_leF, d_leT, d_ltF, d_ltT, d_eqF, d_eqT]
      exact m_giveJoin_s hP hw hJ e rfl rfl hwd (by omega) d4 d6 hde hk hR h
    · rw [if_neg (by omega)] at hwd
      have ef : ∀ wb, fil T (nd P n) wb A B = flT (nd P n).2.2.2.1 (nd P n).2.2.2.2.1 d A B A.length := fun wb => by unfold fil; rw [if_neg (by omega), if_neg (by omega), if_pos e, if_neg hk, hdc]
      rw [ef] at h
      simp (disch := omega) only [q.1, e, fa_lit, nI_ltI, nI_leI, nI_eq, nI_add, pk_mul, nI_clamp, vp_in_nI, l_uk, l_n1, l_n1e, l_n1e2, l_n1l, l_n1l2, l_n1l3, not_true_eq_false, not_false_eq_true, true_implies, false_implies, true_and, and_true, and_self, forall_eq, bI_t, bI_f, Bool.false_eq_true, or_true, true_or, or_false, false_or, s1_ltx, if_true, if_false, Nat.add_zero, Nat.zero_add,  d_leF, d_leT, d_ltF, d_ltT, d_eqF, d_eqT]
      exact m_giveJoin_t hP hw hJ e rfl rfl hwd d4 d6 hde (by omega) d3 hR h
  · rw [if_neg (by omega), if_pos e] at hwd
    obtain ⟨d1, d3, d4, d, hde, d6⟩ := c4 e
    have ha := c1 (by omega)
    have wa6 := (hw.2 _ (show (nd P n).2.1 < P.length by omega)).1.2.2.2.2.2.2
    have hdc : (nd P n).2.2.2.2.2.1.toNatClampNeg = d := by rw [hde]; exact nI_clamp (by omega)
    have ef : ∀ wb, fil T (nd P n) wb A B = gpN (nd P n).2.2.2.1 (nd P n).2.2.2.2.1 d A A.length := fun wb => by unfold fil; rw [if_neg (by omega), if_neg (by omega), if_neg (by omega), if_pos e, hdc]
    rw [ef] at h
    rw [hwd] at hR h
    simp (disch := omega) only [q.1, e, fa_lit, nI_ltI, nI_leI, nI_eq, nI_add, pk_mul, nI_clamp, vp_in_nI, l_uk, l_n1, l_n1e, l_n1e2, l_n1l, l_n1l2, l_n1l3, not_true_eq_false, not_false_eq_true, true_implies, false_implies, true_and, and_true, and_self, forall_eq, bI_t, bI_f, Bool.false_eq_true, or_true, true_or, or_false, false_or, s1_ltx, if_true, if_false, Nat.add_zero, Nat.zero_add,  d_leF, d_leT, d_ltF, d_ltT, d_eqF, d_eqT]
    exact m_giveGroup hP hw hn e ha (hA (by omega)) lA wa6 d4 d6 hde d3 hR h
  · rw [if_neg (by omega), if_neg (by omega), if_neg (by omega)] at hwd
    obtain ⟨d1, d2, d3, d4, d5, d6⟩ := c5 e
    have hB2 := hB d1
    rw [d6, ← hwd] at hB2
    have hA2 := hA (by omega)
    rw [← hwd] at hA2
    have ha := c1 (by omega)
    simp (disch := omega) only [q.1, e, fa_lit, nI_ltI, nI_leI, nI_eq, nI_add, pk_mul, nI_clamp, vp_in_nI, l_uk, l_n1, l_n1e, l_n1e2, l_n1l, l_n1l2, l_n1l3, not_true_eq_false, not_false_eq_true, true_implies, false_implies, true_and, and_true, and_self, forall_eq, bI_t, bI_f, Bool.false_eq_true, or_true, true_or, or_false, false_or, s1_ltx, if_true, if_false, Nat.add_zero, Nat.zero_add,  d_leF, d_leT, d_ltF, d_ltT, d_eqF, d_eqT]
    exact m_giveBag hP hw hn ha d1 d2 ⟨by omega, by omega, hA2, hB2, hwd.symm, by rw [d6, hwd], wn6, lA, lB⟩ d3 hR e h
theorem ST_b {T : QT} {P : List Nd} (hw : Pw T P) : ∀ (f n : Nat), n < f → n < P.length → ST T P n + 200 ≤ 200 * 2 ^ (n + 1) := by
  intro f
  induction f with
  | zero => intro n h; omega
  | succ f ih =>
    intro n hf hn
    obtain ⟨ha, hb⟩ := (hw.2 n hn).ab
    have p1 : 1 ≤ 2 ^ n := Nat.one_le_two_pow
    have eL : oL (EV T P n) ≤ 200 := by
      cases e : EV T P n with
      | none => exact Nat.zero_le _
      | some L =>
        obtain ⟨A, B, -, -, -, h⟩ := EV_some hw hn e
        exact h
    have up : ∀ m, m < n → ST T P m + 200 ≤ 200 * 2 ^ n := fun m hm => Nat.le_trans (ih m (by omega) (by omega)) (Nat.mul_le_mul_left _ (Nat.pow_le_pow_right (by omega) hm))
    have eA : SA T P n + 200 ≤ 200 * 2 ^ n := by
      unfold SA
      split
      · omega
      · rename_i h
        exact up _ (ha h)
    have eB : SB T P n + 200 ≤ 200 * 2 ^ n := by
      unfold SB
      split
      · omega
      · rename_i h
        exact up _ (hb h)
    rw [ST_eq hw hn, Nat.pow_succ]
    omega
theorem ST_lt {T : QT} {P : List Nd} (hw : Pw T P) {n : Nat} (hn : n < P.length) : ST T P n < 2 ^ 40 := by
  have h := ST_b hw (n + 1) n (by omega) hn
  have h2 : (2 : Nat) ^ (n + 1) ≤ 2 ^ 24 := Nat.pow_le_pow_right (by omega) (by have := hw.1; omega)
  omega
