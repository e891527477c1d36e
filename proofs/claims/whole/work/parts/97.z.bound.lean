/-! pure: the places and the lists, counted -/
theorem w_1 {T : QT} {P : List Nd} {a : Nat} (hw : Pw T P) (ha : a < P.length) : 1 ≤ (nd P a).2.2.2.2.2.2 ∧ (nd P a).2.2.2.2.2.2 ≤ 6 := ⟨(hw.2 a ha).1.2.2.2.2.2.1, (hw.2 a ha).1.2.2.2.2.2.2⟩
theorem Up_n {T : QT} {P : List Nd} (hw : Pw T P) : ∀ (k : Nat) {S : Nat → Bool} {L : List Nat} {w : Nat}, Hy P k S L w → 1 ≤ w → (Up P k S L).length ≤ w * Xc 1 1 0 k (ct9 S k)
  | 0, S, L, w, _, _ => Nat.zero_le _
  | k + 1, S, L, w, hy, hw1 => by
    have hkP : k < P.length := hy.1
    have hyd := hy.dn
    have hs := ct9_le S k
    rw [Up]
    by_cases eS : S k = false
    · rw [if_pos eS]
      have e9 : ct9 S (k + 1) = ct9 S k := by rw [ct9, eS]; rfl
      rw [e9]
      exact Nat.le_trans (Up_n hw k hyd hw1) (Nat.mul_le_mul_left w (Xc_u hs))
    · rw [if_neg eS]
      have eS1 : S k = true := by
        cases e : S k
        · exact absurd e eS
        · rfl
      have e9 : ct9 S (k + 1) = ct9 S k + 1 := by rw [ct9, eS1]; rfl
      rw [e9]
      have hwk : (nd P k).2.2.2.2.2.2 = w := hy.2.2 k (Nat.lt_succ_self k) eS1
      have hok : okL (nd P k).2.2.2.2.2.2 L := by rw [hwk]; exact hy.2.1
      have one : ∀ {a w' L'}, Hy P k (one9 a) L' w' → 1 ≤ w' → (Up P k (one9 a) L').length ≤ w' * Xc 1 1 0 k 1 := fun {a} {w'} {L'} h h1 => Nat.le_trans (Up_n hw k h h1) (Nat.mul_le_mul_left w' (Xc_m 1 1 0 k (ct9_one a k)))
      have more : ∀ {S2}, Hy P k S2 L w → ct9 S2 k ≤ ct9 S k + 1 + 1 → (Up P k S2 L).length + 1 ≤ w * Xc 1 1 0 (k + 1) (ct9 S k + 1) := fun {S2} h h1 => by
        have i1 := Up_n hw k h hw1
        have i2 := Nat.mul_le_mul_left w (Xc_a (α := 1) (β := 1) (z := 0) (k := k) (s := ct9 S k + 1) (t := ct9 S2 k) (by omega) h1 (ct9_le S2 k))
        rw [Nat.mul_add, Nat.mul_one] at i2
        omega
      have i0 := Up_n hw k hyd hw1
      have ib := Nat.mul_le_mul_left w (Xc_b (α := 1) (β := 1) (z := 0) (k := k) (s := ct9 S k))
      rw [Nat.mul_add, Nat.mul_add, Nat.mul_one] at ib
      rw [List.length_cons]
      by_cases e1 : (nd P k).1 = 1
      · rw [if_pos e1, List.length_append]
        obtain ⟨ha, hwa, hok2⟩ := kd_1 hw hkP e1 hok
        have hy2 : Hy P k (one9 (nd P k).2.1) (qco (nd P k) :: L) w := Hy.one (Nat.le_of_lt hkP) (by rw [← hwk]; exact hok2) (hwa.trans hwk)
        have i1 := one hy2 hw1
        omega
      · rw [if_neg e1]
        by_cases e2 : (nd P k).1 = 2 ∧ (nd P k).2.2.2.1 < 2
        · rw [if_pos e2, List.length_append, List.length_append]
          obtain ⟨ha, hb0, hb, hws, okF, okS⟩ := kd_2 hw hkP e2 hok
          have i1 := one (Hy.one (a := (nd P k).2.1) (Nat.le_of_lt hkP) okF rfl) (w_1 hw (by omega)).1
          have i2 := one (Hy.one (a := (nd P k).2.2.1 - 1) (Nat.le_of_lt hkP) okS rfl) (w_1 hw (by omega)).1
          have e5 : w * Xc 1 1 0 k 1 = (nd P (nd P k).2.1).2.2.2.2.2.2 * Xc 1 1 0 k 1 + (nd P ((nd P k).2.2.1 - 1)).2.2.2.2.2.2 * Xc 1 1 0 k 1 := by rw [← hwk, hws, Nat.add_mul]
          omega
        · rw [if_neg e2]
          by_cases e3 : (nd P k).1 = 2
          · rw [if_pos e3]
            obtain ⟨ha, hwa, eF, eC⟩ := kd_3 hw hkP e3 (fun z => e2 ⟨e3, z⟩) hok
            exact more (hyd.ad (hwa.trans hwk)) (Nat.le_succ_of_le (ct9_ad S _ k).1)
          · rw [if_neg e3]
            by_cases e4 : (nd P k).1 = 4 ∧ (nd P k).2.2.2.1 = 0
            · rw [if_pos e4]
              obtain ⟨ha, hb, hwa, hwb, eF, eC⟩ := kd_4 (L := L) hw hkP e4
              exact more ((hyd.ad (hwa.trans hwk)).ad (hwb.trans hwk)) (Nat.le_trans (ct9_ad _ _ k).1 (Nat.succ_le_succ (ct9_ad S _ k).1))
            · rw [if_neg e4]
              exact more hyd (by omega)
theorem Vp_n {T : QT} {P : List Nd} (hw : Pw T P) : ∀ (k : Nat) {S : Nat → Bool} {L : List Nat} {w : Nat}, Hy P k S L w → 1 ≤ w → L.length + k ≤ 24 → (Vp P k S L).length ≤ w * Xc 0 1 0 k (ct9 S k) + 22 * ((w - 1) * Xc 0 0 1 k (ct9 S k))
  | 0, S, L, w, _, _, _ => Nat.zero_le _
  | k + 1, S, L, w, hy, hw1, hl => by
    have hkP : k < P.length := hy.1
    have hyd := hy.dn
    have hs := ct9_le S k
    rw [Vp]
    by_cases eS : S k = false
    · rw [if_pos eS]
      have e9 : ct9 S (k + 1) = ct9 S k := by rw [ct9, eS]; rfl
      rw [e9]
      have i0 := Vp_n hw k hyd hw1 (by omega)
      have i1 := Nat.mul_le_mul_left w (Xc_u (α := 0) (β := 1) (z := 0) hs)
      have i2 := Nat.mul_le_mul_left (w - 1) (Xc_u (α := 0) (β := 0) (z := 1) hs)
      omega
    · rw [if_neg eS]
      have eS1 : S k = true := by
        cases e : S k
        · exact absurd e eS
        · rfl
      have e9 : ct9 S (k + 1) = ct9 S k + 1 := by rw [ct9, eS1]; rfl
      rw [e9]
      have hwk : (nd P k).2.2.2.2.2.2 = w := hy.2.2 k (Nat.lt_succ_self k) eS1
      have hok : okL (nd P k).2.2.2.2.2.2 L := by rw [hwk]; exact hy.2.1
      have one : ∀ {a w' L'}, Hy P k (one9 a) L' w' → 1 ≤ w' → L'.length + k ≤ 24 → (Vp P k (one9 a) L').length ≤ w' * Xc 0 1 0 k 1 + 22 * ((w' - 1) * Xc 0 0 1 k 1) := fun {a} {w'} {L'} h h1 h2 => by
        have j0 := Vp_n hw k h h1 h2
        have j1 := Nat.mul_le_mul_left w' (Xc_m 0 1 0 k (ct9_one a k))
        have j2 := Nat.mul_le_mul_left (w' - 1) (Xc_m 0 0 1 k (ct9_one a k))
        omega
      have more : ∀ {S2}, Hy P k S2 L w → ct9 S2 k ≤ ct9 S k + 1 + 1 → (Vp P k S2 L).length ≤ w * Xc 0 1 0 (k + 1) (ct9 S k + 1) + 22 * ((w - 1) * Xc 0 0 1 (k + 1) (ct9 S k + 1)) := fun {S2} h h1 => by
        have i1 := Vp_n hw k h hw1 (by omega)
        have i2 := Nat.mul_le_mul_left w (Xc_a (α := 0) (β := 1) (z := 0) (k := k) (s := ct9 S k + 1) (t := ct9 S2 k) (by omega) h1 (ct9_le S2 k))
        have i3 := Nat.mul_le_mul_left (w - 1) (Xc_a (α := 0) (β := 0) (z := 1) (k := k) (s := ct9 S k + 1) (t := ct9 S2 k) (by omega) h1 (ct9_le S2 k))
        rw [Nat.zero_add] at i2 i3
        omega
      have i0 := Vp_n hw k hyd hw1 (by omega)
      have ib := Nat.mul_le_mul_left w (Xc_b (α := 0) (β := 1) (z := 0) (k := k) (s := ct9 S k))
      rw [Nat.mul_add, Nat.mul_add, Nat.mul_one] at ib
      have ih := Nat.mul_le_mul_left (w - 1) (Xc_b (α := 0) (β := 0) (z := 1) (k := k) (s := ct9 S k))
      rw [Nat.zero_add, Nat.mul_add] at ih
      by_cases e1 : (nd P k).1 = 1
      · rw [if_pos e1, List.length_cons, List.length_append]
        obtain ⟨ha, hwa, hok2⟩ := kd_1 hw hkP e1 hok
        have hy2 : Hy P k (one9 (nd P k).2.1) (qco (nd P k) :: L) w := Hy.one (Nat.le_of_lt hkP) (by rw [← hwk]; exact hok2) (hwa.trans hwk)
        have i1 := one hy2 hw1 (by rw [List.length_cons]; omega)
        omega
      · rw [if_neg e1]
        by_cases e2 : (nd P k).1 = 2 ∧ (nd P k).2.2.2.1 < 2
        · rw [if_pos e2, List.length_append, List.length_append, List.length_append, List.length_append, sfx_l, sfx_l]
          obtain ⟨ha, hb0, hb, hws, okF, okS⟩ := kd_2 hw hkP e2 hok
          have hlen := kd_2l (P := P) (k := k) (L := L) e2.1
          have hwa := (w_1 hw (show (nd P k).2.1 < P.length by omega)).1
          have hwb := (w_1 hw (show (nd P k).2.2.1 - 1 < P.length by omega)).1
          have i1 := one (Hy.one (a := (nd P k).2.1) (Nat.le_of_lt hkP) okF rfl) hwa (by omega)
          have i2 := one (Hy.one (a := (nd P k).2.2.1 - 1) (Nat.le_of_lt hkP) okS rfl) hwb (by omega)
          have hX1 := Xc_1 k
          generalize Xc 0 0 1 k 1 = h1 at *
          generalize Xc 0 1 0 k 1 = f1 at *
          rw [hwk] at hws
          have e5 : w * f1 = (nd P (nd P k).2.1).2.2.2.2.2.2 * f1 + (nd P ((nd P k).2.2.1 - 1)).2.2.2.2.2.2 * f1 := by rw [hws, Nat.add_mul]
          have e6 : (w - 1) * h1 = ((nd P (nd P k).2.1).2.2.2.2.2.2 - 1) * h1 + ((nd P ((nd P k).2.2.1 - 1)).2.2.2.2.2.2 - 1) * h1 + h1 := by
            rw [show w - 1 = ((nd P (nd P k).2.1).2.2.2.2.2.2 - 1) + ((nd P ((nd P k).2.2.1 - 1)).2.2.2.2.2.2 - 1) + 1 by omega, Nat.add_mul, Nat.add_mul, Nat.one_mul]
          omega
        · rw [if_neg e2]
          by_cases e3 : (nd P k).1 = 2
          · rw [if_pos e3]
            obtain ⟨ha, hwa, eF, eC⟩ := kd_3 hw hkP e3 (fun z => e2 ⟨e3, z⟩) hok
            exact more (hyd.ad (hwa.trans hwk)) (Nat.le_succ_of_le (ct9_ad S _ k).1)
          · rw [if_neg e3]
            by_cases e4 : (nd P k).1 = 4 ∧ (nd P k).2.2.2.1 = 0
            · rw [if_pos e4]
              obtain ⟨ha, hb, hwa, hwb, eF, eC⟩ := kd_4 (L := L) hw hkP e4
              exact more ((hyd.ad (hwa.trans hwk)).ad (hwb.trans hwk)) (Nat.le_trans (ct9_ad _ _ k).1 (Nat.succ_le_succ (ct9_ad S _ k).1))
            · rw [if_neg e4]
              exact more hyd (by omega)
/-- from every root -/
def DNs (P : List Nd) : Nat → List (Nat × List Nat)
  | 0 => []
  | r + 1 => DNs P r ++ Up P (r + 1) (one9 r) []
def DLs (P : List Nd) : Nat → List (List Nat)
  | 0 => []
  | r + 1 => DLs P r ++ Vp P (r + 1) (one9 r) []
theorem DNs_up {P : List Nd} {x : Nat × List Nat} {r : Nat} (hx : x ∈ Up P (r + 1) (one9 r) []) : ∀ {t : Nat}, r < t → x ∈ DNs P t
  | 0, h => absurd h (Nat.not_lt_zero r)
  | t + 1, h => by
    rw [DNs]
    by_cases e : r = t
    · subst e
      exact List.mem_append.2 (Or.inr hx)
    · exact List.mem_append.2 (Or.inl (DNs_up hx (by omega)))
theorem DLs_up {P : List Nd} {x : List Nat} {r : Nat} (hx : x ∈ Vp P (r + 1) (one9 r) []) : ∀ {t : Nat}, r < t → x ∈ DLs P t
  | 0, h => absurd h (Nat.not_lt_zero r)
  | t + 1, h => by
    rw [DLs]
    by_cases e : r = t
    · subst e
      exact List.mem_append.2 (Or.inr hx)
    · exact List.mem_append.2 (Or.inl (DLs_up hx (by omega)))
theorem DNs_of {P : List Nd} {x : Nat × List Nat} : ∀ {t : Nat}, x ∈ DNs P t → ∃ r, r < t ∧ x ∈ Up P (r + 1) (one9 r) []
  | 0, h => by cases h
  | t + 1, h => by
    rw [DNs] at h
    rcases List.mem_append.mp h with z | z
    · obtain ⟨r, a, b⟩ := DNs_of z
      exact ⟨r, by omega, b⟩
    · exact ⟨t, Nat.lt_succ_self t, z⟩
theorem hy_root {T : QT} {P : List Nd} {r : Nat} (hr : r < P.length) : Hy P (r + 1) (one9 r) [] (nd P r).2.2.2.2.2.2 := Hy.one hr (fun e he => by cases he) rfl
theorem DNs_n {T : QT} {P : List Nd} (hw : Pw T P) : ∀ {t : Nat}, t ≤ P.length → (DNs P t).length ≤ SG t
  | 0, _ => Nat.le_refl _
  | t + 1, h => by
    have i0 := DNs_n hw (t := t) (by omega)
    obtain ⟨w1, w6⟩ := w_1 hw (show t < P.length by omega)
    have i1 := Up_n hw (t + 1) (hy_root (T := T) (show t < P.length by omega)) w1
    have i2 := Nat.mul_le_mul w6 (Xc_m 1 1 0 (t + 1) (ct9_one t (t + 1)))
    rw [DNs, SG, List.length_append]
    omega
theorem DLs_n {T : QT} {P : List Nd} (hw : Pw T P) : ∀ {t : Nat}, t ≤ P.length → (DLs P t).length ≤ SF t
  | 0, _ => Nat.le_refl _
  | t + 1, h => by
    have h24 := hw.1
    have i0 := DLs_n hw (t := t) (by omega)
    obtain ⟨w1, w6⟩ := w_1 hw (show t < P.length by omega)
    have i1 := Vp_n hw (t + 1) (hy_root (T := T) (show t < P.length by omega)) w1 (by show 0 + (t + 1) ≤ 24; omega)
    have i2 := Nat.mul_le_mul w6 (Xc_m 0 1 0 (t + 1) (ct9_one t (t + 1)))
    have i3 := Nat.mul_le_mul (show (nd P t).2.2.2.2.2.2 - 1 ≤ 5 by omega) (Xc_m 0 0 1 (t + 1) (ct9_one t (t + 1)))
    rw [DLs, SF, List.length_append]
    omega
theorem cl_all {T : QT} {P : List Nd} (hw : Pw T P) : ∃ DN DL, Cl P DN DL ∧ ∀ n, n < P.length → (n, []) ∈ DN := by
  have h24 := hw.1
  have hroot : ∀ n, n < P.length → (n, []) ∈ DNs P P.length := fun n hn => DNs_up (Up_in (Nat.lt_succ_self n) (one9_a n)) hn
  refine ⟨DNs P P.length, DLs P P.length, ⟨?_, ?_, fun n L hm hn => ?_⟩, hroot⟩
  · refine Nat.le_trans (DLs_n hw (Nat.le_refl _)) (Nat.le_trans (SF_m h24) ?_)
    rw [SF_24]
    decide
  · refine Nat.le_trans (DNs_n hw (Nat.le_refl _)) (Nat.le_trans (SG_m h24) ?_)
    rw [SG_24]
    decide
  · obtain ⟨r, hr, hx⟩ := DNs_of hm
    obtain ⟨-, q1, q2, q3, q4⟩ := Up_cl hw (r + 1) (hy_root (T := T) hr) n L hx
    have hab := (hw.2 n hn).ab
    refine ⟨fun H M e hM => ?_, fun e => DNs_up (q2 e) hr, fun e0 e1 => ⟨?_, fun eb => ?_⟩⟩
    · rcases q4 H M e hM with z | ⟨H2, z⟩
      · exact DLs_up z hr
      · exact absurd (List.append_eq_nil_iff.1 z.symm).2 hM
    · rcases (q3 e0 e1).1 with z | z
      · exact DNs_up z hr
      · rw [z]; exact hroot _ (by have := hab.1 e0; omega)
    · rcases (q3 e0 e1).2 eb with z | z
      · exact DNs_up z hr
      · rw [z]; exact hroot _ (by have := hab.2 eb; omega)
