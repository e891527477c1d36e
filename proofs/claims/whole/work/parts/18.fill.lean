/-! Arrays.fill -/
def wJ7_fill (q z : Nat) (a1 : Int32) (I : QI) (post : QI → Prop) : Prop := (a1 = 0 ∨ a1 = 1) ∧ post (fun b j => if b = q ∧ j < z then a1 else I b j)
theorem s_fill_0 {X : QX} {S : QS} {q z : Nat} {a1 : Int32} {I : QI} {J : QJ} {post : QI → Prop} (hq : q < S.2.1) (hk : S.2.2.1 q = 11) (hz : S.2.2.2.1 q = z) (hz9 : z ≤ 1000) (ha : a1 = 0 ∨ a1 = 1) (h : post (fun b j => if b = q ∧ j < z then a1 else I b j)) :
    ∀ (m i : Nat) (I1 : QI), i + m = z → I1 = (fun b j => if b = q ∧ j < i then a1 else I b j) → V X mJ7_fill_49daa 0 0 0 (q_Pv S (fun I2 J2 => J = J2 ∧ post I2)) 5 [(0, .ref q), (1, .int a1), (2, .int (nI i)), (3, .int (nI z))] [] S I1 J 0 0 := by
  intro m
  induction m with
  | zero =>
    intro i I1 hi hI
    refine V_iload_n dJ7_fill_49daa_5 rfl rfl ?_
    refine V_iload_n dJ7_fill_49daa_6 rfl rfl ?_
    refine V_icmp_ge 20 dJ7_fill_49daa_7 rfl (fun hc => ?_) (fun hc => ?_)
    · have e9 : i = z := by omega
      subst e9
      rw [hI]
      exact V_vret dJ7_fill_49daa_20 rfl (by decide) (by decide) ⟨rfl, rfl, rfl, h⟩
    · exact absurd (nI_le (show z ≤ i by omega) (by omega)) hc
  | succ m ih =>
    intro i I1 hi hI
    refine V_iload_n dJ7_fill_49daa_5 rfl rfl ?_
    refine V_iload_n dJ7_fill_49daa_6 rfl rfl ?_
    refine V_icmp_ge 20 dJ7_fill_49daa_7 rfl (fun hc => ?_) (fun hc => ?_)
    · exact absurd hc (nI_ge (show i < z by omega) (by omega))
    · refine V_aload_n dJ7_fill_49daa_10 rfl rfl ?_
      refine V_iload_n dJ7_fill_49daa_11 rfl rfl ?_
      refine V_iload_n dJ7_fill_49daa_12 rfl rfl ?_
      refine V_zast dJ7_fill_49daa_13 hq hk (by rw [hz]; exact vp_in_nI (by omega) (by omega)) (q_vz ha) ?_
      refine V_iinc (lo2 := [(2, .int (nI (i + 1))), (0, .ref q), (1, .int a1), (3, .int (nI z))]) 2 dJ7_fill_49daa_14 rfl (v := nI (i + 1)) (nI_succ i).symm (by decide) rfl ?_
      refine V_goto 5 dJ7_fill_49daa_17 rfl ?_
      refine V_sub (lo2 := [(0, .ref q), (1, .int a1), (2, .int (nI (i + 1))), (3, .int (nI z))]) [1, 2, 0, 3] rfl ?_
      refine ih (i + 1) _ (by omega) ?_
      rw [hI, nI_clamp (by omega)]
      funext b j
      unfold q_u2
      by_cases hb : b = q
      · by_cases hj : j = i
        · simp [hb, hj]
        · have : j < i + 1 ↔ j < i := by omega
          simp [hb, hj, this]
      · simp [hb]
theorem s_mJ7_fill {X : QX} {S : QS} {q z : Nat} {a1 : Int32} {I : QI} {J : QJ} {post : QI → Prop} (hq : q < S.2.1) (hk : S.2.2.1 q = 11) (hz : S.2.2.2.1 q = z) (hz9 : z ≤ 1000) (h : wJ7_fill q z a1 I post) : CX X mJ7_fill_49daa 0 0 0 [.ref q, .int a1] S I J (q_Pv S (fun I2 J2 => J = J2 ∧ post I2)) := by
  obtain ⟨ha, h⟩ := h
  refine CX.of (lo := [(0, .ref q), (1, .int a1)]) ok_mJ7_fill_49daa rfl (Nat.le_of_ble_eq_true rfl) rfl ?_
  refine V_iconst (v := 0) dJ7_fill_49daa_0 (by decide) ?_
  refine V_istore_n (lo2 := [(2, .int 0), (0, .ref q), (1, .int a1)]) dJ7_fill_49daa_1 rfl (by decide) rfl ?_
  refine V_aload_n dJ7_fill_49daa_2 rfl rfl ?_
  refine V_alenZ (v := nI z) dJ7_fill_49daa_3 hq hk (by rw [hz]; rfl) ?_
  refine V_istore_n (lo2 := [(3, .int (nI z)), (2, .int 0), (0, .ref q), (1, .int a1)]) dJ7_fill_49daa_4 rfl (by decide) rfl ?_
  refine V_sub (lo2 := [(0, .ref q), (1, .int a1), (2, .int 0), (3, .int (nI z))]) [2, 3, 1, 0] rfl ?_
  exact s_fill_0 hq hk hz hz9 ha h z 0 I (by omega) (by funext b j; simp)
