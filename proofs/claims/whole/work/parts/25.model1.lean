def wX8_find_3 (a1 : Int32) (a2 : Int32) (a3 : Int32) (a4 : Int32) (a5 : Int32) (a6 : Int32) (I : QI) (post : Int32 → Prop) : Nat → Int32 → Prop
  | 0, _ => False
  | n + 1, x7 => (((I 51 5) ≤ x7 → post (-1)) ∧ (¬ (I 51 5) ≤ x7 → (vp_in x7 24 ∧ ((¬ (I 55 (x7).toNatClampNeg) = a1 → (∀ v1 : Int32, v1 = (x7 + 1) → (wX8_find_3 a1 a2 a3 a4 a5 a6 I post n v1))) ∧ ((I 55 (x7).toNatClampNeg) = a1 → (vp_in x7 24 ∧ ((¬ (I 56 (x7).toNatClampNeg) = a2 → (∀ v2 : Int32, v2 = (x7 + 1) → (wX8_find_3 a1 a2 a3 a4 a5 a6 I post n v2))) ∧ ((I 56 (x7).toNatClampNeg) = a2 → (vp_in x7 24 ∧ ((¬ (I 57 (x7).toNatClampNeg) = a3 → (∀ v3 : Int32, v3 = (x7 + 1) → (wX8_find_3 a1 a2 a3 a4 a5 a6 I post n v3))) ∧ ((I 57 (x7).toNatClampNeg) = a3 → (vp_in x7 24 ∧ ((¬ (I 58 (x7).toNatClampNeg) = a4 → (∀ v4 : Int32, v4 = (x7 + 1) → (wX8_find_3 a1 a2 a3 a4 a5 a6 I post n v4))) ∧ ((I 58 (x7).toNatClampNeg) = a4 → (vp_in x7 24 ∧ ((¬ (I 59 (x7).toNatClampNeg) = a5 → (∀ v5 : Int32, v5 = (x7 + 1) → (wX8_find_3 a1 a2 a3 a4 a5 a6 I post n v5))) ∧ ((I 59 (x7).toNatClampNeg) = a5 → (vp_in x7 24 ∧ ((¬ (I 60 (x7).toNatClampNeg) = a6 → (∀ v6 : Int32, v6 = (x7 + 1) → (wX8_find_3 a1 a2 a3 a4 a5 a6 I post n v6))) ∧ ((I 60 (x7).toNatClampNeg) = a6 → post x7))))))))))))))))))))
set_option maxRecDepth 100000 in
set_option maxHeartbeats 4000000 in
theorem swX8_find_3 {X : QX} {S : QS} {a1 : Int32} {a2 : Int32} {a3 : Int32} {a4 : Int32} {a5 : Int32} {a6 : Int32} {I : QI} {J : QJ} {post : Int32 → Prop} (hS : Sh S) : ∀ (f : Nat) (x7 : Int32), wX8_find_3 a1 a2 a3 a4 a5 a6 I post f x7 → V X mX8_find 0 0 0 (q_Pi S (fun r I2 J2 => I = I2 ∧ J = J2 ∧ post r)) 3 [(0, .ref 51), (1, .int a1), (2, .int a2), (3, .int a3), (4, .int a4), (5, .int a5), (6, .int a6), (7, .int x7)] [] S I J 0 0 := by
  intro f
  induction f with
  | zero => intro x7 h; exact h.elim
  | succ n ih =>
    intro x7 h
    replace h : (((I 51 5) ≤ x7 → post (-1)) ∧ (¬ (I 51 5) ≤ x7 → (vp_in x7 24 ∧ ((¬ (I 55 (x7).toNatClampNeg) = a1 → (∀ v1 : Int32, v1 = (x7 + 1) → (wX8_find_3 a1 a2 a3 a4 a5 a6 I post n v1))) ∧ ((I 55 (x7).toNatClampNeg) = a1 → (vp_in x7 24 ∧ ((¬ (I 56 (x7).toNatClampNeg) = a2 → (∀ v2 : Int32, v2 = (x7 + 1) → (wX8_find_3 a1 a2 a3 a4 a5 a6 I post n v2))) ∧ ((I 56 (x7).toNatClampNeg) = a2 → (vp_in x7 24 ∧ ((¬ (I 57 (x7).toNatClampNeg) = a3 → (∀ v3 : Int32, v3 = (x7 + 1) → (wX8_find_3 a1 a2 a3 a4 a5 a6 I post n v3))) ∧ ((I 57 (x7).toNatClampNeg) = a3 → (vp_in x7 24 ∧ ((¬ (I 58 (x7).toNatClampNeg) = a4 → (∀ v4 : Int32, v4 = (x7 + 1) → (wX8_find_3 a1 a2 a3 a4 a5 a6 I post n v4))) ∧ ((I 58 (x7).toNatClampNeg) = a4 → (vp_in x7 24 ∧ ((¬ (I 59 (x7).toNatClampNeg) = a5 → (∀ v5 : Int32, v5 = (x7 + 1) → (wX8_find_3 a1 a2 a3 a4 a5 a6 I post n v5))) ∧ ((I 59 (x7).toNatClampNeg) = a5 → (vp_in x7 24 ∧ ((¬ (I 60 (x7).toNatClampNeg) = a6 → (∀ v6 : Int32, v6 = (x7 + 1) → (wX8_find_3 a1 a2 a3 a4 a5 a6 I post n v6))) ∧ ((I 60 (x7).toNatClampNeg) = a6 → post x7)))))))))))))))))))) := h
    refine V_iload dX8_find_3 rfl ?_
    refine V_aload_n dX8_find_5 rfl rfl ?_
    refine V_geti dX8_find_6 fl_RX8_118 (hS.n 51 rfl) (hS.k 51 8 rfl) rfl ?_
    refine V_icmp_ge 90 dX8_find_9 rfl (fun hc => ?_) (fun hc => ?_)
    · replace h := h.1 hc
      refine V_iconst (v := (-1)) dX8_find_90 (by decide) ?_
      exact V_iret dX8_find_91 rfl (by decide) (by decide) ⟨_, rfl, rfl, rfl, rfl, h⟩
    · replace h := h.2 hc
      refine V_aload_n dX8_find_12 rfl rfl ?_
      refine V_getr dX8_find_13 fl_RX8_19 (hS.n 51 rfl) (hS.k 51 8 rfl) rfl (hS.r 51 6 55 rfl) ?_
      refine V_iload dX8_find_16 rfl ?_
      obtain ⟨hb, h⟩ := h
      refine V_iald dX8_find_18 (hS.n 55 rfl) (hS.k 55 9 rfl) (by rw [(hS.z 55 24 rfl)]; exact hb) ?_
      refine V_iload_n dX8_find_19 rfl rfl ?_
      refine V_icmp_ne 84 dX8_find_20 rfl (fun hc => ?_) (fun hc => ?_)
      · replace h := h.1 hc
        obtain ⟨v1, e_v1⟩ : ∃ z : Int32, z = (x7 + 1) := ⟨_, rfl⟩
        replace h := h v1 e_v1
        refine V_iinc (lo2 := [(7, .int v1), (0, .ref 51), (1, .int a1), (2, .int a2), (3, .int a3), (4, .int a4), (5, .int a5), (6, .int a6)]) 7 dX8_find_84 rfl (v := v1) (by rw [e_v1]; first | done | rfl) (by decide) rfl ?_
        refine V_goto 3 dX8_find_87 rfl ?_
        refine V_sub (lo2 := [(0, .ref 51), (1, .int a1), (2, .int a2), (3, .int a3), (4, .int a4), (5, .int a5), (6, .int a6), (7, .int v1)]) [1, 2, 3, 4, 5, 6, 7, 0] rfl ?_
        exact ih _ h
      · replace h := h.2 hc
        refine V_aload_n dX8_find_23 rfl rfl ?_
        refine V_getr dX8_find_24 fl_RX8_22 (hS.n 51 rfl) (hS.k 51 8 rfl) rfl (hS.r 51 7 56 rfl) ?_
        refine V_iload dX8_find_27 rfl ?_
        obtain ⟨hb, h⟩ := h
        refine V_iald dX8_find_29 (hS.n 56 rfl) (hS.k 56 9 rfl) (by rw [(hS.z 56 24 rfl)]; exact hb) ?_
        refine V_iload_n dX8_find_30 rfl rfl ?_
        refine V_icmp_ne 84 dX8_find_31 rfl (fun hc => ?_) (fun hc => ?_)
        · replace h := h.1 hc
          obtain ⟨v2, e_v2⟩ : ∃ z : Int32, z = (x7 + 1) := ⟨_, rfl⟩
          replace h := h v2 e_v2
          refine V_iinc (lo2 := [(7, .int v2), (0, .ref 51), (1, .int a1), (2, .int a2), (3, .int a3), (4, .int a4), (5, .int a5), (6, .int a6)]) 7 dX8_find_84 rfl (v := v2) (by rw [e_v2]; first | done | rfl) (by decide) rfl ?_
          refine V_goto 3 dX8_find_87 rfl ?_
          refine V_sub (lo2 := [(0, .ref 51), (1, .int a1), (2, .int a2), (3, .int a3), (4, .int a4), (5, .int a5), (6, .int a6), (7, .int v2)]) [1, 2, 3, 4, 5, 6, 7, 0] rfl ?_
          exact ih _ h
        · replace h := h.2 hc
          refine V_aload_n dX8_find_34 rfl rfl ?_
          refine V_getr dX8_find_35 fl_RX8_25 (hS.n 51 rfl) (hS.k 51 8 rfl) rfl (hS.r 51 8 57 rfl) ?_
          refine V_iload dX8_find_38 rfl ?_
          obtain ⟨hb, h⟩ := h
          refine V_iald dX8_find_40 (hS.n 57 rfl) (hS.k 57 9 rfl) (by rw [(hS.z 57 24 rfl)]; exact hb) ?_
          refine V_iload_n dX8_find_41 rfl rfl ?_
          refine V_icmp_ne 84 dX8_find_42 rfl (fun hc => ?_) (fun hc => ?_)
          · replace h := h.1 hc
            obtain ⟨v3, e_v3⟩ : ∃ z : Int32, z = (x7 + 1) := ⟨_, rfl⟩
            replace h := h v3 e_v3
            refine V_iinc (lo2 := [(7, .int v3), (0, .ref 51), (1, .int a1), (2, .int a2), (3, .int a3), (4, .int a4), (5, .int a5), (6, .int a6)]) 7 dX8_find_84 rfl (v := v3) (by rw [e_v3]; first | done | rfl) (by decide) rfl ?_
            refine V_goto 3 dX8_find_87 rfl ?_
            refine V_sub (lo2 := [(0, .ref 51), (1, .int a1), (2, .int a2), (3, .int a3), (4, .int a4), (5, .int a5), (6, .int a6), (7, .int v3)]) [1, 2, 3, 4, 5, 6, 7, 0] rfl ?_
            exact ih _ h
          · replace h := h.2 hc
            refine V_aload_n dX8_find_45 rfl rfl ?_
            refine V_getr dX8_find_46 fl_RX8_28 (hS.n 51 rfl) (hS.k 51 8 rfl) rfl (hS.r 51 9 58 rfl) ?_
            refine V_iload dX8_find_49 rfl ?_
            obtain ⟨hb, h⟩ := h
            refine V_iald dX8_find_51 (hS.n 58 rfl) (hS.k 58 9 rfl) (by rw [(hS.z 58 24 rfl)]; exact hb) ?_
            refine V_iload dX8_find_52 rfl ?_
            refine V_icmp_ne 84 dX8_find_54 rfl (fun hc => ?_) (fun hc => ?_)
            · replace h := h.1 hc
              obtain ⟨v4, e_v4⟩ : ∃ z : Int32, z = (x7 + 1) := ⟨_, rfl⟩
              replace h := h v4 e_v4
              refine V_iinc (lo2 := [(7, .int v4), (0, .ref 51), (1, .int a1), (2, .int a2), (3, .int a3), (4, .int a4), (5, .int a5), (6, .int a6)]) 7 dX8_find_84 rfl (v := v4) (by rw [e_v4]; first | done | rfl) (by decide) rfl ?_
              refine V_goto 3 dX8_find_87 rfl ?_
              refine V_sub (lo2 := [(0, .ref 51), (1, .int a1), (2, .int a2), (3, .int a3), (4, .int a4), (5, .int a5), (6, .int a6), (7, .int v4)]) [1, 2, 3, 4, 5, 6, 7, 0] rfl ?_
              exact ih _ h
            · replace h := h.2 hc
              refine V_aload_n dX8_find_57 rfl rfl ?_
              refine V_getr dX8_find_58 fl_RX8_31 (hS.n 51 rfl) (hS.k 51 8 rfl) rfl (hS.r 51 10 59 rfl) ?_
              refine V_iload dX8_find_61 rfl ?_
              obtain ⟨hb, h⟩ := h
              refine V_iald dX8_find_63 (hS.n 59 rfl) (hS.k 59 9 rfl) (by rw [(hS.z 59 24 rfl)]; exact hb) ?_
              refine V_iload dX8_find_64 rfl ?_
              refine V_icmp_ne 84 dX8_find_66 rfl (fun hc => ?_) (fun hc => ?_)
              · replace h := h.1 hc
                obtain ⟨v5, e_v5⟩ : ∃ z : Int32, z = (x7 + 1) := ⟨_, rfl⟩
                replace h := h v5 e_v5
                refine V_iinc (lo2 := [(7, .int v5), (0, .ref 51), (1, .int a1), (2, .int a2), (3, .int a3), (4, .int a4), (5, .int a5), (6, .int a6)]) 7 dX8_find_84 rfl (v := v5) (by rw [e_v5]; first | done | rfl) (by decide) rfl ?_
                refine V_goto 3 dX8_find_87 rfl ?_
                refine V_sub (lo2 := [(0, .ref 51), (1, .int a1), (2, .int a2), (3, .int a3), (4, .int a4), (5, .int a5), (6, .int a6), (7, .int v5)]) [1, 2, 3, 4, 5, 6, 7, 0] rfl ?_
                exact ih _ h
              · replace h := h.2 hc
                refine V_aload_n dX8_find_69 rfl rfl ?_
                refine V_getr dX8_find_70 fl_RX8_34 (hS.n 51 rfl) (hS.k 51 8 rfl) rfl (hS.r 51 11 60 rfl) ?_
                refine V_iload dX8_find_73 rfl ?_
                obtain ⟨hb, h⟩ := h
                refine V_iald dX8_find_75 (hS.n 60 rfl) (hS.k 60 9 rfl) (by rw [(hS.z 60 24 rfl)]; exact hb) ?_
                refine V_iload dX8_find_76 rfl ?_
                refine V_icmp_ne 84 dX8_find_78 rfl (fun hc => ?_) (fun hc => ?_)
                · replace h := h.1 hc
                  obtain ⟨v6, e_v6⟩ : ∃ z : Int32, z = (x7 + 1) := ⟨_, rfl⟩
                  replace h := h v6 e_v6
                  refine V_iinc (lo2 := [(7, .int v6), (0, .ref 51), (1, .int a1), (2, .int a2), (3, .int a3), (4, .int a4), (5, .int a5), (6, .int a6)]) 7 dX8_find_84 rfl (v := v6) (by rw [e_v6]; first | done | rfl) (by decide) rfl ?_
                  refine V_goto 3 dX8_find_87 rfl ?_
                  refine V_sub (lo2 := [(0, .ref 51), (1, .int a1), (2, .int a2), (3, .int a3), (4, .int a4), (5, .int a5), (6, .int a6), (7, .int v6)]) [1, 2, 3, 4, 5, 6, 7, 0] rfl ?_
                  exact ih _ h
                · replace h := h.2 hc
                  refine V_iload dX8_find_81 rfl ?_
                  exact V_iret dX8_find_83 rfl (by decide) (by decide) ⟨_, rfl, rfl, rfl, rfl, h⟩
def wX8_find (a1 : Int32) (a2 : Int32) (a3 : Int32) (a4 : Int32) (a5 : Int32) (a6 : Int32) (I : QI) (post : Int32 → Prop) : Prop := (∃ f : Nat, wX8_find_3 a1 a2 a3 a4 a5 a6 I post f 0)
set_option maxRecDepth 100000 in
set_option maxHeartbeats 4000000 in
theorem s_mX8_find {X : QX} {S : QS} {a1 : Int32} {a2 : Int32} {a3 : Int32} {a4 : Int32} {a5 : Int32} {a6 : Int32} {I : QI} {J : QJ} {post : Int32 → Prop} (hS : Sh S) (h : wX8_find a1 a2 a3 a4 a5 a6 I post) : CX X mX8_find 0 0 0 [.ref 51, .int a1, .int a2, .int a3, .int a4, .int a5, .int a6] S I J (q_Pi S (fun r I2 J2 => I = I2 ∧ J = J2 ∧ post r)) := by
  refine CX.of (lo := [(0, .ref 51), (1, .int a1), (2, .int a2), (3, .int a3), (4, .int a4), (5, .int a5), (6, .int a6)]) ok_mX8_find rfl (Nat.le_of_ble_eq_true rfl) rfl ?_
  replace h : (∃ f : Nat, wX8_find_3 a1 a2 a3 a4 a5 a6 I post f 0) := h
  refine V_iconst (v := 0) dX8_find_0 (by decide) ?_
  refine V_istore (lo2 := [(7, .int 0), (0, .ref 51), (1, .int a1), (2, .int a2), (3, .int a3), (4, .int a4), (5, .int a5), (6, .int a6)]) dX8_find_1 (by decide) rfl ?_
  refine V_sub (lo2 := [(0, .ref 51), (1, .int a1), (2, .int a2), (3, .int a3), (4, .int a4), (5, .int a5), (6, .int a6), (7, .int 0)]) [1, 2, 3, 4, 5, 6, 7, 0] rfl ?_
  obtain ⟨f9, h⟩ := h
  refine swX8_find_3 hS f9 _ h
def wX8_widthOf (a1 : Int32) (a2 : Int32) (a3 : Int32) (a4 : Int32) (I : QI) (post : Int32 → Prop) : Prop := ((¬ a1 = 0 → ((¬ a1 = 3 → ((¬ a1 = 2 → (vp_in a2 24 ∧ post (I 61 (a2).toNatClampNeg))) ∧ (a1 = 2 → ((2 ≤ a4 → (vp_in a2 24 ∧ post (I 61 (a2).toNatClampNeg))) ∧ (¬ 2 ≤ a4 → (vp_in a2 24 ∧ (vp_in a3 24 ∧ post ((I 61 (a2).toNatClampNeg) + (I 61 (a3).toNatClampNeg))))))))) ∧ (a1 = 3 → post 2))) ∧ (a1 = 0 → (vp_in a2 4 ∧ post (I 52 (a2).toNatClampNeg))))
set_option maxRecDepth 100000 in
set_option maxHeartbeats 4000000 in
theorem s_mX8_widthOf {X : QX} {S : QS} {a1 : Int32} {a2 : Int32} {a3 : Int32} {a4 : Int32} {I : QI} {J : QJ} {post : Int32 → Prop} (hS : Sh S) (h : wX8_widthOf a1 a2 a3 a4 I post) : CX X mX8_widthOf 0 0 0 [.ref 51, .int a1, .int a2, .int a3, .int a4] S I J (q_Pi S (fun r I2 J2 => I = I2 ∧ J = J2 ∧ post r)) := by
  refine CX.of (lo := [(0, .ref 51), (1, .int a1), (2, .int a2), (3, .int a3), (4, .int a4)]) ok_mX8_widthOf rfl (Nat.le_of_ble_eq_true rfl) rfl ?_
  replace h : ((¬ a1 = 0 → ((¬ a1 = 3 → ((¬ a1 = 2 → (vp_in a2 24 ∧ post (I 61 (a2).toNatClampNeg))) ∧ (a1 = 2 → ((2 ≤ a4 → (vp_in a2 24 ∧ post (I 61 (a2).toNatClampNeg))) ∧ (¬ 2 ≤ a4 → (vp_in a2 24 ∧ (vp_in a3 24 ∧ post ((I 61 (a2).toNatClampNeg) + (I 61 (a3).toNatClampNeg))))))))) ∧ (a1 = 3 → post 2))) ∧ (a1 = 0 → (vp_in a2 4 ∧ post (I 52 (a2).toNatClampNeg)))) := h
  refine V_iload_n dX8_widthOf_0 rfl rfl ?_
  refine V_if_ne 13 dX8_widthOf_1 rfl (fun hc => ?_) (fun hc => ?_)
  · replace h := h.1 hc
    refine V_iload_n dX8_widthOf_13 rfl rfl ?_
    refine V_iconst (v := 3) dX8_widthOf_14 (by decide) ?_
    refine V_icmp_ne 22 dX8_widthOf_15 rfl (fun hc => ?_) (fun hc => ?_)
    · replace h := h.1 hc
      refine V_iload_n dX8_widthOf_22 rfl rfl ?_
      refine V_iconst (v := 2) dX8_widthOf_23 (by decide) ?_
      refine V_icmp_ne 49 dX8_widthOf_24 rfl (fun hc => ?_) (fun hc => ?_)
      · replace h := h.1 hc
        refine V_aload_n dX8_widthOf_49 rfl rfl ?_
        refine V_getr dX8_widthOf_50 fl_RX8_37 (hS.n 51 rfl) (hS.k 51 8 rfl) rfl (hS.r 51 12 61 rfl) ?_
        refine V_iload_n dX8_widthOf_53 rfl rfl ?_
        obtain ⟨hb, h⟩ := h
        refine V_iald dX8_widthOf_54 (hS.n 61 rfl) (hS.k 61 9 rfl) (by rw [(hS.z 61 24 rfl)]; exact hb) ?_
        exact V_iret dX8_widthOf_55 rfl (by decide) (by decide) ⟨_, rfl, rfl, rfl, rfl, h⟩
      · replace h := h.2 hc
        refine V_iload dX8_widthOf_27 rfl ?_
        refine V_iconst (v := 2) dX8_widthOf_29 (by decide) ?_
        refine V_icmp_ge 49 dX8_widthOf_30 rfl (fun hc => ?_) (fun hc => ?_)
        · replace h := h.1 hc
          refine V_aload_n dX8_widthOf_49 rfl rfl ?_
          refine V_getr dX8_widthOf_50 fl_RX8_37 (hS.n 51 rfl) (hS.k 51 8 rfl) rfl (hS.r 51 12 61 rfl) ?_
          refine V_iload_n dX8_widthOf_53 rfl rfl ?_
          obtain ⟨hb, h⟩ := h
          refine V_iald dX8_widthOf_54 (hS.n 61 rfl) (hS.k 61 9 rfl) (by rw [(hS.z 61 24 rfl)]; exact hb) ?_
          exact V_iret dX8_widthOf_55 rfl (by decide) (by decide) ⟨_, rfl, rfl, rfl, rfl, h⟩
        · replace h := h.2 hc
          refine V_aload_n dX8_widthOf_33 rfl rfl ?_
          refine V_getr dX8_widthOf_34 fl_RX8_37 (hS.n 51 rfl) (hS.k 51 8 rfl) rfl (hS.r 51 12 61 rfl) ?_
          refine V_iload_n dX8_widthOf_37 rfl rfl ?_
          obtain ⟨hb, h⟩ := h
          refine V_iald dX8_widthOf_38 (hS.n 61 rfl) (hS.k 61 9 rfl) (by rw [(hS.z 61 24 rfl)]; exact hb) ?_
          refine V_aload_n dX8_widthOf_39 rfl rfl ?_
          refine V_getr dX8_widthOf_40 fl_RX8_37 (hS.n 51 rfl) (hS.k 51 8 rfl) rfl (hS.r 51 12 61 rfl) ?_
          refine V_iload_n dX8_widthOf_43 rfl rfl ?_
          obtain ⟨hb, h⟩ := h
          refine V_iald dX8_widthOf_44 (hS.n 61 rfl) (hS.k 61 9 rfl) (by rw [(hS.z 61 24 rfl)]; exact hb) ?_
          refine V_iadd dX8_widthOf_45 ?_
          refine V_goto 55 dX8_widthOf_46 rfl ?_
          exact V_iret dX8_widthOf_55 rfl (by decide) (by decide) ⟨_, rfl, rfl, rfl, rfl, h⟩
    · replace h := h.2 hc
      refine V_iconst (v := 2) dX8_widthOf_18 (by decide) ?_
      refine V_goto 55 dX8_widthOf_19 rfl ?_
      exact V_iret dX8_widthOf_55 rfl (by decide) (by decide) ⟨_, rfl, rfl, rfl, rfl, h⟩
  · replace h := h.2 hc
    refine V_aload_n dX8_widthOf_4 rfl rfl ?_
    refine V_getr dX8_widthOf_5 fl_RX8_9 (hS.n 51 rfl) (hS.k 51 8 rfl) rfl (hS.r 51 2 52 rfl) ?_
    refine V_iload_n dX8_widthOf_8 rfl rfl ?_
    obtain ⟨hb, h⟩ := h
    refine V_iald dX8_widthOf_9 (hS.n 52 rfl) (hS.k 52 9 rfl) (by rw [(hS.z 52 4 rfl)]; exact hb) ?_
    refine V_goto 55 dX8_widthOf_10 rfl ?_
    exact V_iret dX8_widthOf_55 rfl (by decide) (by decide) ⟨_, rfl, rfl, rfl, rfl, h⟩
def wX8_lay (a1 : Int32) (a2 : Int32) (a3 : Int32) (a4 : Int32) (a5 : Int32) (a6 : Int32) (a7 : Int32) (I : QI) (post : QI → Prop) : Prop := (vp_in a1 24 ∧ (∀ I1 : QI, I1 = q_u2 I 55 (a1).toNatClampNeg a2 → (vp_in a1 24 ∧ (∀ I2 : QI, I2 = q_u2 I1 56 (a1).toNatClampNeg a3 → (vp_in a1 24 ∧ (∀ I3 : QI, I3 = q_u2 I2 57 (a1).toNatClampNeg a4 → (vp_in a1 24 ∧ (∀ I4 : QI, I4 = q_u2 I3 58 (a1).toNatClampNeg a5 → (vp_in a1 24 ∧ (∀ I5 : QI, I5 = q_u2 I4 59 (a1).toNatClampNeg a6 → (vp_in a1 24 ∧ (∀ I6 : QI, I6 = q_u2 I5 60 (a1).toNatClampNeg a7 → ((¬ a2 = 2 → (wX8_widthOf a2 a3 a4 0 I6 (fun r7 => (vp_in a1 24 ∧ (∀ I8 : QI, I8 = q_u2 I6 61 (a1).toNatClampNeg r7 → post I8))))) ∧ (a2 = 2 → (wX8_widthOf a2 a3 a4 a7 I6 (fun r9 => (vp_in a1 24 ∧ (∀ I10 : QI, I10 = q_u2 I6 61 (a1).toNatClampNeg r9 → post I10))))))))))))))))))
set_option maxRecDepth 100000 in
set_option maxHeartbeats 4000000 in
theorem s_mX8_lay {X : QX} {S : QS} {a1 : Int32} {a2 : Int32} {a3 : Int32} {a4 : Int32} {a5 : Int32} {a6 : Int32} {a7 : Int32} {I : QI} {J : QJ} {post : QI → Prop} (hS : Sh S) (h : wX8_lay a1 a2 a3 a4 a5 a6 a7 I post) : CX X mX8_lay 1 0 0 [.ref 51, .int a1, .int a2, .int a3, .int a4, .int a5, .int a6, .int a7] S I J (q_Pv S (fun I2 J2 => J = J2 ∧ post I2)) := by
  refine CX.of (lo := [(0, .ref 51), (1, .int a1), (2, .int a2), (3, .int a3), (4, .int a4), (5, .int a5), (6, .int a6), (7, .int a7)]) ok_mX8_lay rfl (Nat.le_of_ble_eq_true rfl) rfl ?_
  replace h : (vp_in a1 24 ∧ (∀ I1 : QI, I1 = q_u2 I 55 (a1).toNatClampNeg a2 → (vp_in a1 24 ∧ (∀ I2 : QI, I2 = q_u2 I1 56 (a1).toNatClampNeg a3 → (vp_in a1 24 ∧ (∀ I3 : QI, I3 = q_u2 I2 57 (a1).toNatClampNeg a4 → (vp_in a1 24 ∧ (∀ I4 : QI, I4 = q_u2 I3 58 (a1).toNatClampNeg a5 → (vp_in a1 24 ∧ (∀ I5 : QI, I5 = q_u2 I4 59 (a1).toNatClampNeg a6 → (vp_in a1 24 ∧ (∀ I6 : QI, I6 = q_u2 I5 60 (a1).toNatClampNeg a7 → ((¬ a2 = 2 → (wX8_widthOf a2 a3 a4 0 I6 (fun r7 => (vp_in a1 24 ∧ (∀ I8 : QI, I8 = q_u2 I6 61 (a1).toNatClampNeg r7 → post I8))))) ∧ (a2 = 2 → (wX8_widthOf a2 a3 a4 a7 I6 (fun r9 => (vp_in a1 24 ∧ (∀ I10 : QI, I10 = q_u2 I6 61 (a1).toNatClampNeg r9 → post I10)))))))))))))))))) := h
  refine V_aload_n dX8_lay_0 rfl rfl ?_
  refine V_getr dX8_lay_1 fl_RX8_19 (hS.n 51 rfl) (hS.k 51 8 rfl) rfl (hS.r 51 6 55 rfl) ?_
  refine V_iload_n dX8_lay_4 rfl rfl ?_
  refine V_iload_n dX8_lay_5 rfl rfl ?_
  obtain ⟨hb, h⟩ := h
  refine V_iast dX8_lay_6 (hS.n 55 rfl) (hS.k 55 9 rfl) (by rw [(hS.z 55 24 rfl)]; exact hb) ?_
  refine V_memI (fun I1 e_I1 => ?_)
  replace h := h I1 e_I1
  refine V_aload_n dX8_lay_7 rfl rfl ?_
  refine V_getr dX8_lay_8 fl_RX8_22 (hS.n 51 rfl) (hS.k 51 8 rfl) rfl (hS.r 51 7 56 rfl) ?_
  refine V_iload_n dX8_lay_11 rfl rfl ?_
  refine V_iload_n dX8_lay_12 rfl rfl ?_
  obtain ⟨hb, h⟩ := h
  refine V_iast dX8_lay_13 (hS.n 56 rfl) (hS.k 56 9 rfl) (by rw [(hS.z 56 24 rfl)]; exact hb) ?_
  refine V_memI (fun I2 e_I2 => ?_)
  replace h := h I2 e_I2
  refine V_aload_n dX8_lay_14 rfl rfl ?_
  refine V_getr dX8_lay_15 fl_RX8_25 (hS.n 51 rfl) (hS.k 51 8 rfl) rfl (hS.r 51 8 57 rfl) ?_
  refine V_iload_n dX8_lay_18 rfl rfl ?_
  refine V_iload dX8_lay_19 rfl ?_
  obtain ⟨hb, h⟩ := h
  refine V_iast dX8_lay_21 (hS.n 57 rfl) (hS.k 57 9 rfl) (by rw [(hS.z 57 24 rfl)]; exact hb) ?_
  refine V_memI (fun I3 e_I3 => ?_)
  replace h := h I3 e_I3
  refine V_aload_n dX8_lay_22 rfl rfl ?_
  refine V_getr dX8_lay_23 fl_RX8_28 (hS.n 51 rfl) (hS.k 51 8 rfl) rfl (hS.r 51 9 58 rfl) ?_
  refine V_iload_n dX8_lay_26 rfl rfl ?_
  refine V_iload dX8_lay_27 rfl ?_
  obtain ⟨hb, h⟩ := h
  refine V_iast dX8_lay_29 (hS.n 58 rfl) (hS.k 58 9 rfl) (by rw [(hS.z 58 24 rfl)]; exact hb) ?_
  refine V_memI (fun I4 e_I4 => ?_)
  replace h := h I4 e_I4
  refine V_aload_n dX8_lay_30 rfl rfl ?_
  refine V_getr dX8_lay_31 fl_RX8_31 (hS.n 51 rfl) (hS.k 51 8 rfl) rfl (hS.r 51 10 59 rfl) ?_
  refine V_iload_n dX8_lay_34 rfl rfl ?_
  refine V_iload dX8_lay_35 rfl ?_
  obtain ⟨hb, h⟩ := h
  refine V_iast dX8_lay_37 (hS.n 59 rfl) (hS.k 59 9 rfl) (by rw [(hS.z 59 24 rfl)]; exact hb) ?_
  refine V_memI (fun I5 e_I5 => ?_)
  replace h := h I5 e_I5
  refine V_aload_n dX8_lay_38 rfl rfl ?_
  refine V_getr dX8_lay_39 fl_RX8_34 (hS.n 51 rfl) (hS.k 51 8 rfl) rfl (hS.r 51 11 60 rfl) ?_
  refine V_iload_n dX8_lay_42 rfl rfl ?_
  refine V_iload dX8_lay_43 rfl ?_
  obtain ⟨hb, h⟩ := h
  refine V_iast dX8_lay_45 (hS.n 60 rfl) (hS.k 60 9 rfl) (by rw [(hS.z 60 24 rfl)]; exact hb) ?_
  refine V_memI (fun I6 e_I6 => ?_)
  replace h := h I6 e_I6
  refine V_aload_n dX8_lay_46 rfl rfl ?_
  refine V_getr dX8_lay_47 fl_RX8_37 (hS.n 51 rfl) (hS.k 51 8 rfl) rfl (hS.r 51 12 61 rfl) ?_
  refine V_iload_n dX8_lay_50 rfl rfl ?_
  refine V_aload_n dX8_lay_51 rfl rfl ?_
  refine V_iload_n dX8_lay_52 rfl rfl ?_
  refine V_iload_n dX8_lay_53 rfl rfl ?_
  refine V_iload dX8_lay_54 rfl ?_
  refine V_iload_n dX8_lay_56 rfl rfl ?_
  refine V_iconst (v := 2) dX8_lay_57 (by decide) ?_
  refine V_icmp_ne 66 dX8_lay_58 rfl (fun hc => ?_) (fun hc => ?_)
  · replace h := h.1 hc
    refine V_iconst (v := 0) dX8_lay_66 (by decide) ?_
    refine V_callVi (st := [.int a1, .ref 61]) [.int a2, .int a3, .int a4, .int 0] dX8_lay_67 ok_mX8_widthOf rfl ml_RX8_124 in_mX8_widthOf se_mX8_widthOf (hS.n 51 rfl) (hS.k 51 8 rfl) (by decide) rfl (Nat.le_of_ble_eq_true rfl) (by decide) (by decide) (by decide) (s_mX8_widthOf hS h) (fun r7 I9 J9 h => ?_)
    obtain ⟨rfl, rfl, h⟩ := h
    obtain ⟨hb, h⟩ := h
    refine V_iast dX8_lay_70 (hS.n 61 rfl) (hS.k 61 9 rfl) (by rw [(hS.z 61 24 rfl)]; exact hb) ?_
    refine V_memI (fun I8 e_I8 => ?_)
    replace h := h I8 e_I8
    exact V_vret dX8_lay_71 rfl (by decide) (by decide) ⟨rfl, rfl, rfl, h⟩
  · replace h := h.2 hc
    refine V_iload dX8_lay_61 rfl ?_
    refine V_goto 67 dX8_lay_63 rfl ?_
    refine V_callVi (st := [.int a1, .ref 61]) [.int a2, .int a3, .int a4, .int a7] dX8_lay_67 ok_mX8_widthOf rfl ml_RX8_124 in_mX8_widthOf se_mX8_widthOf (hS.n 51 rfl) (hS.k 51 8 rfl) (by decide) rfl (Nat.le_of_ble_eq_true rfl) (by decide) (by decide) (by decide) (s_mX8_widthOf hS h) (fun r9 I9 J9 h => ?_)
    obtain ⟨rfl, rfl, h⟩ := h
    obtain ⟨hb, h⟩ := h
    refine V_iast dX8_lay_70 (hS.n 61 rfl) (hS.k 61 9 rfl) (by rw [(hS.z 61 24 rfl)]; exact hb) ?_
    refine V_memI (fun I10 e_I10 => ?_)
    replace h := h I10 e_I10
    exact V_vret dX8_lay_71 rfl (by decide) (by decide) ⟨rfl, rfl, rfl, h⟩
def wX8_made (a1 : Int32) (a2 : Int32) (a3 : Int32) (a4 : Int32) (a5 : Int32) (a6 : Int32) (a7 : Int32) (I : QI) (post : Int32 → QI → Prop) : Prop := (wX8_find a1 a2 a3 a4 a5 a6 I (fun r1 => ((r1 = (-1) → ((¬ (I 51 5) = 24 → (wX8_goesWell 0 I (fun r3 I2 => ((¬ r3 = 0 → (wX8_lay (I2 51 5) a1 a2 a3 a4 a5 a6 I2 (fun I4 => (∀ I5 : QI, I5 = q_u2 I4 51 5 ((I4 51 5) + 1) → post ((I5 51 5) - 1) I5)))) ∧ (r3 = 0 → post 0 I2))))) ∧ ((I 51 5) = 24 → (wX8_goesWell a7 I (fun r7 I6 => ((¬ r7 = 0 → (wX8_lay (I6 51 5) a1 a2 a3 a4 a5 a6 I6 (fun I8 => (∀ I9 : QI, I9 = q_u2 I8 51 5 ((I8 51 5) + 1) → post ((I9 51 5) - 1) I9)))) ∧ (r7 = 0 → post 0 I6))))))) ∧ (¬ r1 = (-1) → (∀ I10 : QI, I10 = q_u2 I 51 0 0 → post r1 I10)))))
set_option maxRecDepth 100000 in
set_option maxHeartbeats 4000000 in
theorem s_mX8_made {X : QX} {S : QS} {a1 : Int32} {a2 : Int32} {a3 : Int32} {a4 : Int32} {a5 : Int32} {a6 : Int32} {a7 : Int32} {I : QI} {J : QJ} {post : Int32 → QI → Prop} (hS : Sh S) (h : wX8_made a1 a2 a3 a4 a5 a6 a7 I post) : CX X mX8_made 2 0 0 [.ref 51, .int a1, .int a2, .int a3, .int a4, .int a5, .int a6, .int a7] S I J (q_Pi S (fun r I2 J2 => J = J2 ∧ post r I2)) := by
  refine CX.of (lo := [(0, .ref 51), (1, .int a1), (2, .int a2), (3, .int a3), (4, .int a4), (5, .int a5), (6, .int a6), (7, .int a7)]) ok_mX8_made rfl (Nat.le_of_ble_eq_true rfl) rfl ?_
  replace h : (wX8_find a1 a2 a3 a4 a5 a6 I (fun r1 => ((r1 = (-1) → ((¬ (I 51 5) = 24 → (wX8_goesWell 0 I (fun r3 I2 => ((¬ r3 = 0 → (wX8_lay (I2 51 5) a1 a2 a3 a4 a5 a6 I2 (fun I4 => (∀ I5 : QI, I5 = q_u2 I4 51 5 ((I4 51 5) + 1) → post ((I5 51 5) - 1) I5)))) ∧ (r3 = 0 → post 0 I2))))) ∧ ((I 51 5) = 24 → (wX8_goesWell a7 I (fun r7 I6 => ((¬ r7 = 0 → (wX8_lay (I6 51 5) a1 a2 a3 a4 a5 a6 I6 (fun I8 => (∀ I9 : QI, I9 = q_u2 I8 51 5 ((I8 51 5) + 1) → post ((I9 51 5) - 1) I9)))) ∧ (r7 = 0 → post 0 I6))))))) ∧ (¬ r1 = (-1) → (∀ I10 : QI, I10 = q_u2 I 51 0 0 → post r1 I10))))) := h
  refine V_aload_n dX8_made_0 rfl rfl ?_
  refine V_iload_n dX8_made_1 rfl rfl ?_
  refine V_iload_n dX8_made_2 rfl rfl ?_
  refine V_iload_n dX8_made_3 rfl rfl ?_
  refine V_iload dX8_made_4 rfl ?_
  refine V_iload dX8_made_6 rfl ?_
  refine V_iload dX8_made_8 rfl ?_
  refine V_callVi (st := []) [.int a1, .int a2, .int a3, .int a4, .int a5, .int a6] dX8_made_10 ok_mX8_find rfl ml_RX8_128 in_mX8_find se_mX8_find (hS.n 51 rfl) (hS.k 51 8 rfl) (by decide) rfl (Nat.le_of_ble_eq_true rfl) (by decide) (by decide) (by decide) (s_mX8_find hS h) (fun r1 I9 J9 h => ?_)
  obtain ⟨rfl, rfl, h⟩ := h
  refine V_istore (lo2 := [(8, .int r1), (0, .ref 51), (1, .int a1), (2, .int a2), (3, .int a3), (4, .int a4), (5, .int a5), (6, .int a6), (7, .int a7)]) dX8_made_13 (by decide) rfl ?_
  refine V_iload dX8_made_15 rfl ?_
  refine V_iconst (v := (-1)) dX8_made_17 (by decide) ?_
  refine V_icmp_eq 29 dX8_made_18 rfl (fun hc => ?_) (fun hc => ?_)
  · replace h := h.1 hc
    refine V_aload_n dX8_made_29 rfl rfl ?_
    refine V_aload_n dX8_made_30 rfl rfl ?_
    refine V_geti dX8_made_31 fl_RX8_118 (hS.n 51 rfl) (hS.k 51 8 rfl) rfl ?_
    refine V_bipush (v := 24) dX8_made_34 (by decide) ?_
    refine V_icmp_ne 44 dX8_made_36 rfl (fun hc => ?_) (fun hc => ?_)
    · replace h := h.1 hc
      refine V_iconst (v := 0) dX8_made_44 (by decide) ?_
      refine V_callVi (st := []) [.int 0] dX8_made_45 ok_mX8_goesWell rfl ml_RX8_112 in_mX8_goesWell se_mX8_goesWell (hS.n 51 rfl) (hS.k 51 8 rfl) (by decide) rfl (Nat.le_of_ble_eq_true rfl) (by decide) (by decide) (by decide) (s_mX8_goesWell hS h) (fun r3 I2 J9 h => ?_)
      obtain ⟨rfl, h⟩ := h
      refine V_if_ne 53 dX8_made_48 rfl (fun hc => ?_) (fun hc => ?_)
      · replace h := h.1 hc
        refine V_aload_n dX8_made_53 rfl rfl ?_
        refine V_aload_n dX8_made_54 rfl rfl ?_
        refine V_geti dX8_made_55 fl_RX8_118 (hS.n 51 rfl) (hS.k 51 8 rfl) rfl ?_
        refine V_iload_n dX8_made_58 rfl rfl ?_
        refine V_iload_n dX8_made_59 rfl rfl ?_
        refine V_iload_n dX8_made_60 rfl rfl ?_
        refine V_iload dX8_made_61 rfl ?_
        refine V_iload dX8_made_63 rfl ?_
        refine V_iload dX8_made_65 rfl ?_
        refine V_callVv (st := []) [.int (I2 51 5), .int a1, .int a2, .int a3, .int a4, .int a5, .int a6] dX8_made_67 ok_mX8_lay rfl ml_RX8_132 in_mX8_lay se_mX8_lay (hS.n 51 rfl) (hS.k 51 8 rfl) (by decide) rfl (Nat.le_of_ble_eq_true rfl) (by decide) (by decide) (by decide) (s_mX8_lay hS h) (fun I4 J9 h => ?_)
        obtain ⟨rfl, h⟩ := h
        refine V_aload_n dX8_made_70 rfl rfl ?_
        refine V_dup dX8_made_71 rfl ?_
        refine V_geti dX8_made_72 fl_RX8_118 (hS.n 51 rfl) (hS.k 51 8 rfl) rfl ?_
        refine V_iconst (v := 1) dX8_made_75 (by decide) ?_
        refine V_iadd dX8_made_76 ?_
        refine V_puti dX8_made_77 fl_RX8_118 rfl (hS.n 51 rfl) (hS.k 51 8 rfl) rfl rfl rfl ?_
        refine V_memI (fun I5 e_I5 => ?_)
        replace h := h I5 e_I5
        refine V_aload_n dX8_made_80 rfl rfl ?_
        refine V_geti dX8_made_81 fl_RX8_118 (hS.n 51 rfl) (hS.k 51 8 rfl) rfl ?_
        refine V_iconst (v := 1) dX8_made_84 (by decide) ?_
        refine V_isub dX8_made_85 ?_
        exact V_iret dX8_made_86 rfl (by decide) (by decide) ⟨_, rfl, rfl, rfl, h⟩
      · replace h := h.2 hc
        refine V_iconst (v := 0) dX8_made_51 (by decide) ?_
        exact V_iret dX8_made_52 rfl (by decide) (by decide) ⟨_, rfl, rfl, rfl, h⟩
    · replace h := h.2 hc
      refine V_iload dX8_made_39 rfl ?_
      refine V_goto 45 dX8_made_41 rfl ?_
      refine V_callVi (st := []) [.int a7] dX8_made_45 ok_mX8_goesWell rfl ml_RX8_112 in_mX8_goesWell se_mX8_goesWell (hS.n 51 rfl) (hS.k 51 8 rfl) (by decide) rfl (Nat.le_of_ble_eq_true rfl) (by decide) (by decide) (by decide) (s_mX8_goesWell hS h) (fun r7 I6 J9 h => ?_)
      obtain ⟨rfl, h⟩ := h
      refine V_if_ne 53 dX8_made_48 rfl (fun hc => ?_) (fun hc => ?_)
      · replace h := h.1 hc
        refine V_aload_n dX8_made_53 rfl rfl ?_
        refine V_aload_n dX8_made_54 rfl rfl ?_
        refine V_geti dX8_made_55 fl_RX8_118 (hS.n 51 rfl) (hS.k 51 8 rfl) rfl ?_
        refine V_iload_n dX8_made_58 rfl rfl ?_
        refine V_iload_n dX8_made_59 rfl rfl ?_
        refine V_iload_n dX8_made_60 rfl rfl ?_
        refine V_iload dX8_made_61 rfl ?_
        refine V_iload dX8_made_63 rfl ?_
        refine V_iload dX8_made_65 rfl ?_
        refine V_callVv (st := []) [.int (I6 51 5), .int a1, .int a2, .int a3, .int a4, .int a5, .int a6] dX8_made_67 ok_mX8_lay rfl ml_RX8_132 in_mX8_lay se_mX8_lay (hS.n 51 rfl) (hS.k 51 8 rfl) (by decide) rfl (Nat.le_of_ble_eq_true rfl) (by decide) (by decide) (by decide) (s_mX8_lay hS h) (fun I8 J9 h => ?_)
        obtain ⟨rfl, h⟩ := h
        refine V_aload_n dX8_made_70 rfl rfl ?_
        refine V_dup dX8_made_71 rfl ?_
        refine V_geti dX8_made_72 fl_RX8_118 (hS.n 51 rfl) (hS.k 51 8 rfl) rfl ?_
        refine V_iconst (v := 1) dX8_made_75 (by decide) ?_
        refine V_iadd dX8_made_76 ?_
        refine V_puti dX8_made_77 fl_RX8_118 rfl (hS.n 51 rfl) (hS.k 51 8 rfl) rfl rfl rfl ?_
        refine V_memI (fun I9 e_I9 => ?_)
        replace h := h I9 e_I9
        refine V_aload_n dX8_made_80 rfl rfl ?_
        refine V_geti dX8_made_81 fl_RX8_118 (hS.n 51 rfl) (hS.k 51 8 rfl) rfl ?_
        refine V_iconst (v := 1) dX8_made_84 (by decide) ?_
        refine V_isub dX8_made_85 ?_
        exact V_iret dX8_made_86 rfl (by decide) (by decide) ⟨_, rfl, rfl, rfl, h⟩
      · replace h := h.2 hc
        refine V_iconst (v := 0) dX8_made_51 (by decide) ?_
        exact V_iret dX8_made_52 rfl (by decide) (by decide) ⟨_, rfl, rfl, rfl, h⟩
  · replace h := h.2 hc
    refine V_aload_n dX8_made_21 rfl rfl ?_
    refine V_iconst (v := 0) dX8_made_22 (by decide) ?_
    refine V_puti dX8_made_23 fl_RX8_98 rfl (hS.n 51 rfl) (hS.k 51 8 rfl) rfl rfl rfl ?_
    refine V_memI (fun I10 e_I10 => ?_)
    replace h := h I10 e_I10
    refine V_iload dX8_made_26 rfl ?_
    exact V_iret dX8_made_28 rfl (by decide) (by decide) ⟨_, rfl, rfl, rfl, h⟩
def wX8_scan (a1 : Int32) (I : QI) (post : Int32 → QI → Prop) : Prop := (wX8_isTable a1 I (fun r1 => ((r1 = 0 → (wX8_goesWell 1 I (fun r3 I2 => ((r3 = 0 → post 0 I2) ∧ (¬ r3 = 0 → (wX8_made 0 a1 (-1) 0 0 0 2 I2 (fun r5 I4 => post r5 I4))))))) ∧ (¬ r1 = 0 → (wX8_goesWell 0 I (fun r7 I6 => ((r7 = 0 → post 0 I6) ∧ (¬ r7 = 0 → (wX8_made 0 a1 (-1) 0 0 0 2 I6 (fun r9 I8 => post r9 I8))))))))))
set_option maxRecDepth 100000 in
set_option maxHeartbeats 4000000 in
theorem s_mX8_scan {X : QX} {S : QS} {a1 : Int32} {I : QI} {J : QJ} {post : Int32 → QI → Prop} (hS : Sh S) (h : wX8_scan a1 I post) : CX X mX8_scan 3 0 0 [.ref 51, .int a1] S I J (q_Pi S (fun r I2 J2 => J = J2 ∧ post r I2)) := by
  refine CX.of (lo := [(0, .ref 51), (1, .int a1)]) ok_mX8_scan rfl (Nat.le_of_ble_eq_true rfl) rfl ?_
  replace h : (wX8_isTable a1 I (fun r1 => ((r1 = 0 → (wX8_goesWell 1 I (fun r3 I2 => ((r3 = 0 → post 0 I2) ∧ (¬ r3 = 0 → (wX8_made 0 a1 (-1) 0 0 0 2 I2 (fun r5 I4 => post r5 I4))))))) ∧ (¬ r1 = 0 → (wX8_goesWell 0 I (fun r7 I6 => ((r7 = 0 → post 0 I6) ∧ (¬ r7 = 0 → (wX8_made 0 a1 (-1) 0 0 0 2 I6 (fun r9 I8 => post r9 I8)))))))))) := h
  refine V_aload_n dX8_scan_0 rfl rfl ?_
  refine V_aload_n dX8_scan_1 rfl rfl ?_
  refine V_iload_n dX8_scan_2 rfl rfl ?_
  refine V_callVi (st := [.ref 51]) [.int a1] dX8_scan_3 ok_mX8_isTable rfl ml_RX8_108 in_mX8_isTable se_mX8_isTable (hS.n 51 rfl) (hS.k 51 8 rfl) (by decide) rfl (Nat.le_of_ble_eq_true rfl) (by decide) (by decide) (by decide) (s_mX8_isTable hS h) (fun r1 I9 J9 h => ?_)
  obtain ⟨rfl, rfl, h⟩ := h
  refine V_if_eq 13 dX8_scan_6 rfl (fun hc => ?_) (fun hc => ?_)
  · replace h := h.1 hc
    refine V_iconst (v := 1) dX8_scan_13 (by decide) ?_
    refine V_callVi (st := []) [.int 1] dX8_scan_14 ok_mX8_goesWell rfl ml_RX8_112 in_mX8_goesWell se_mX8_goesWell (hS.n 51 rfl) (hS.k 51 8 rfl) (by decide) rfl (Nat.le_of_ble_eq_true rfl) (by decide) (by decide) (by decide) (s_mX8_goesWell hS h) (fun r3 I2 J9 h => ?_)
    obtain ⟨rfl, h⟩ := h
    refine V_if_eq 34 dX8_scan_17 rfl (fun hc => ?_) (fun hc => ?_)
    · replace h := h.1 hc
      refine V_iconst (v := 0) dX8_scan_34 (by decide) ?_
      exact V_iret dX8_scan_35 rfl (by decide) (by decide) ⟨_, rfl, rfl, rfl, h⟩
    · replace h := h.2 hc
      refine V_aload_n dX8_scan_20 rfl rfl ?_
      refine V_iconst (v := 0) dX8_scan_21 (by decide) ?_
      refine V_iload_n dX8_scan_22 rfl rfl ?_
      refine V_iconst (v := (-1)) dX8_scan_23 (by decide) ?_
      refine V_iconst (v := 0) dX8_scan_24 (by decide) ?_
      refine V_iconst (v := 0) dX8_scan_25 (by decide) ?_
      refine V_iconst (v := 0) dX8_scan_26 (by decide) ?_
      refine V_iconst (v := 2) dX8_scan_27 (by decide) ?_
      refine V_callVi (st := []) [.int 0, .int a1, .int (-1), .int 0, .int 0, .int 0, .int 2] dX8_scan_28 ok_mX8_made rfl ml_RX8_136 in_mX8_made se_mX8_made (hS.n 51 rfl) (hS.k 51 8 rfl) (by decide) rfl (Nat.le_of_ble_eq_true rfl) (by decide) (by decide) (by decide) (s_mX8_made hS h) (fun r5 I4 J9 h => ?_)
      obtain ⟨rfl, h⟩ := h
      refine V_goto 35 dX8_scan_31 rfl ?_
      exact V_iret dX8_scan_35 rfl (by decide) (by decide) ⟨_, rfl, rfl, rfl, h⟩
  · replace h := h.2 hc
    refine V_iconst (v := 0) dX8_scan_9 (by decide) ?_
    refine V_goto 14 dX8_scan_10 rfl ?_
    refine V_callVi (st := []) [.int 0] dX8_scan_14 ok_mX8_goesWell rfl ml_RX8_112 in_mX8_goesWell se_mX8_goesWell (hS.n 51 rfl) (hS.k 51 8 rfl) (by decide) rfl (Nat.le_of_ble_eq_true rfl) (by decide) (by decide) (by decide) (s_mX8_goesWell hS h) (fun r7 I6 J9 h => ?_)
    obtain ⟨rfl, h⟩ := h
    refine V_if_eq 34 dX8_scan_17 rfl (fun hc => ?_) (fun hc => ?_)
    · replace h := h.1 hc
      refine V_iconst (v := 0) dX8_scan_34 (by decide) ?_
      exact V_iret dX8_scan_35 rfl (by decide) (by decide) ⟨_, rfl, rfl, rfl, h⟩
    · replace h := h.2 hc
      refine V_aload_n dX8_scan_20 rfl rfl ?_
      refine V_iconst (v := 0) dX8_scan_21 (by decide) ?_
      refine V_iload_n dX8_scan_22 rfl rfl ?_
      refine V_iconst (v := (-1)) dX8_scan_23 (by decide) ?_
      refine V_iconst (v := 0) dX8_scan_24 (by decide) ?_
      refine V_iconst (v := 0) dX8_scan_25 (by decide) ?_
      refine V_iconst (v := 0) dX8_scan_26 (by decide) ?_
      refine V_iconst (v := 2) dX8_scan_27 (by decide) ?_
      refine V_callVi (st := []) [.int 0, .int a1, .int (-1), .int 0, .int 0, .int 0, .int 2] dX8_scan_28 ok_mX8_made rfl ml_RX8_136 in_mX8_made se_mX8_made (hS.n 51 rfl) (hS.k 51 8 rfl) (by decide) rfl (Nat.le_of_ble_eq_true rfl) (by decide) (by decide) (by decide) (s_mX8_made hS h) (fun r9 I8 J9 h => ?_)
      obtain ⟨rfl, h⟩ := h
      refine V_goto 35 dX8_scan_31 rfl ?_
      exact V_iret dX8_scan_35 rfl (by decide) (by decide) ⟨_, rfl, rfl, rfl, h⟩
def wX8_isNode (a1 : Int32) (I : QI) (post : Int32 → Prop) : Prop := (wX8_in a1 0 ((I 51 5) - 1) I (fun r1 => ((r1 = 0 ∨ r1 = 1) ∧ post r1)))
set_option maxRecDepth 100000 in
set_option maxHeartbeats 4000000 in
theorem s_mX8_isNode {X : QX} {S : QS} {a1 : Int32} {I : QI} {J : QJ} {post : Int32 → Prop} (hS : Sh S) (h : wX8_isNode a1 I post) : CX X mX8_isNode 1 0 0 [.ref 51, .int a1] S I J (q_Pi S (fun r I2 J2 => I = I2 ∧ J = J2 ∧ post r)) := by
  refine CX.of (lo := [(0, .ref 51), (1, .int a1)]) ok_mX8_isNode rfl (Nat.le_of_ble_eq_true rfl) rfl ?_
  replace h : (wX8_in a1 0 ((I 51 5) - 1) I (fun r1 => ((r1 = 0 ∨ r1 = 1) ∧ post r1))) := h
  refine V_iload_n dX8_isNode_0 rfl rfl ?_
  refine V_iconst (v := 0) dX8_isNode_1 (by decide) ?_
  refine V_aload_n dX8_isNode_2 rfl rfl ?_
  refine V_geti dX8_isNode_3 fl_RX8_118 (hS.n 51 rfl) (hS.k 51 8 rfl) rfl ?_
  refine V_iconst (v := 1) dX8_isNode_6 (by decide) ?_
  refine V_isub dX8_isNode_7 ?_
  refine V_callSi (st := []) [.int a1, .int 0, .int ((I 51 5) - 1)] dX8_isNode_8 ok_mX8_in rfl ml_RX8_104 st_mX8_in (Nat.le_of_ble_eq_true rfl) (by decide) (by decide) (by decide) (s_mX8_in hS h) (fun r1 I9 J9 h => ?_)
  obtain ⟨rfl, rfl, h⟩ := h
  obtain ⟨hz, h⟩ := h
  exact V_zret dX8_isNode_11 rfl (q_nz hz) (by decide) (by decide) ⟨_, rfl, rfl, rfl, rfl, h⟩
def wX8_isNodeColumn (a1 : Int32) (a2 : Int32) (I : QI) (post : Int32 → Prop) : Prop := (wX8_isNode a1 I (fun r1 => ((r1 = 0 → post 0) ∧ (¬ r1 = 0 → (vp_in a1 24 ∧ (wX8_in a2 0 ((I 61 (a1).toNatClampNeg) - 1) I (fun r2 => ((r2 = 0 → post 0) ∧ (¬ r2 = 0 → post 1)))))))))
set_option maxRecDepth 100000 in
set_option maxHeartbeats 4000000 in
theorem s_mX8_isNodeColumn {X : QX} {S : QS} {a1 : Int32} {a2 : Int32} {I : QI} {J : QJ} {post : Int32 → Prop} (hS : Sh S) (h : wX8_isNodeColumn a1 a2 I post) : CX X mX8_isNodeColumn 2 0 0 [.ref 51, .int a1, .int a2] S I J (q_Pi S (fun r I2 J2 => I = I2 ∧ J = J2 ∧ post r)) := by
  refine CX.of (lo := [(0, .ref 51), (1, .int a1), (2, .int a2)]) ok_mX8_isNodeColumn rfl (Nat.le_of_ble_eq_true rfl) rfl ?_
  replace h : (wX8_isNode a1 I (fun r1 => ((r1 = 0 → post 0) ∧ (¬ r1 = 0 → (vp_in a1 24 ∧ (wX8_in a2 0 ((I 61 (a1).toNatClampNeg) - 1) I (fun r2 => ((r2 = 0 → post 0) ∧ (¬ r2 = 0 → post 1))))))))) := h
  refine V_aload_n dX8_isNodeColumn_0 rfl rfl ?_
  refine V_iload_n dX8_isNodeColumn_1 rfl rfl ?_
  refine V_callVi (st := []) [.int a1] dX8_isNodeColumn_2 ok_mX8_isNode rfl ml_RX8_121 in_mX8_isNode se_mX8_isNode (hS.n 51 rfl) (hS.k 51 8 rfl) (by decide) rfl (Nat.le_of_ble_eq_true rfl) (by decide) (by decide) (by decide) (s_mX8_isNode hS h) (fun r1 I9 J9 h => ?_)
  obtain ⟨rfl, rfl, h⟩ := h
  refine V_if_eq 28 dX8_isNodeColumn_5 rfl (fun hc => ?_) (fun hc => ?_)
  · replace h := h.1 hc
    refine V_iconst (v := 0) dX8_isNodeColumn_28 (by decide) ?_
    exact V_zret dX8_isNodeColumn_29 rfl (by decide) (by decide) (by decide) ⟨_, rfl, rfl, rfl, rfl, h⟩
  · replace h := h.2 hc
    refine V_iload_n dX8_isNodeColumn_8 rfl rfl ?_
    refine V_iconst (v := 0) dX8_isNodeColumn_9 (by decide) ?_
    refine V_aload_n dX8_isNodeColumn_10 rfl rfl ?_
    refine V_getr dX8_isNodeColumn_11 fl_RX8_37 (hS.n 51 rfl) (hS.k 51 8 rfl) rfl (hS.r 51 12 61 rfl) ?_
    refine V_iload_n dX8_isNodeColumn_14 rfl rfl ?_
    obtain ⟨hb, h⟩ := h
    refine V_iald dX8_isNodeColumn_15 (hS.n 61 rfl) (hS.k 61 9 rfl) (by rw [(hS.z 61 24 rfl)]; exact hb) ?_
    refine V_iconst (v := 1) dX8_isNodeColumn_16 (by decide) ?_
    refine V_isub dX8_isNodeColumn_17 ?_
    refine V_callSi (st := []) [.int a2, .int 0, .int ((I 61 (a1).toNatClampNeg) - 1)] dX8_isNodeColumn_18 ok_mX8_in rfl ml_RX8_104 st_mX8_in (Nat.le_of_ble_eq_true rfl) (by decide) (by decide) (by decide) (s_mX8_in hS h) (fun r2 I9 J9 h => ?_)
    obtain ⟨rfl, rfl, h⟩ := h
    refine V_if_eq 28 dX8_isNodeColumn_21 rfl (fun hc => ?_) (fun hc => ?_)
    · replace h := h.1 hc
      refine V_iconst (v := 0) dX8_isNodeColumn_28 (by decide) ?_
      exact V_zret dX8_isNodeColumn_29 rfl (by decide) (by decide) (by decide) ⟨_, rfl, rfl, rfl, rfl, h⟩
    · replace h := h.2 hc
      refine V_iconst (v := 1) dX8_isNodeColumn_24 (by decide) ?_
      refine V_goto 29 dX8_isNodeColumn_25 rfl ?_
      exact V_zret dX8_isNodeColumn_29 rfl (by decide) (by decide) (by decide) ⟨_, rfl, rfl, rfl, rfl, h⟩
def wX8_filter (a1 : Int32) (a2 : Int32) (a3 : Int32) (a4 : Int32) (I : QI) (post : Int32 → QI → Prop) : Prop := (wX8_isNodeColumn a1 a2 I (fun r1 => (wX8_in a3 0 5 I (fun r2 => ((r2 = 0 → ((¬ r1 = 0 → (wX8_goesWell 2 I (fun r4 I3 => ((r4 = 0 → post 0 I3) ∧ (¬ r4 = 0 → (wX8_made 1 a1 (-1) a2 a3 a4 3 I3 (fun r6 I5 => post r6 I5))))))) ∧ (r1 = 0 → (wX8_goesWell 1 I (fun r8 I7 => ((r8 = 0 → post 0 I7) ∧ (¬ r8 = 0 → (wX8_made 1 a1 (-1) a2 a3 a4 3 I7 (fun r10 I9 => post r10 I9))))))))) ∧ (¬ r2 = 0 → ((4 ≤ a3 → ((¬ a4 = 0 → ((¬ r1 = 0 → (wX8_goesWell 2 I (fun r12 I11 => ((r12 = 0 → post 0 I11) ∧ (¬ r12 = 0 → (wX8_made 1 a1 (-1) a2 a3 a4 3 I11 (fun r14 I13 => post r14 I13))))))) ∧ (r1 = 0 → (wX8_goesWell 1 I (fun r16 I15 => ((r16 = 0 → post 0 I15) ∧ (¬ r16 = 0 → (wX8_made 1 a1 (-1) a2 a3 a4 3 I15 (fun r18 I17 => post r18 I17))))))))) ∧ (a4 = 0 → ((¬ r1 = 0 → (wX8_goesWell 0 I (fun r20 I19 => ((r20 = 0 → post 0 I19) ∧ (¬ r20 = 0 → (wX8_made 1 a1 (-1) a2 a3 a4 3 I19 (fun r22 I21 => post r22 I21))))))) ∧ (r1 = 0 → (wX8_goesWell 1 I (fun r24 I23 => ((r24 = 0 → post 0 I23) ∧ (¬ r24 = 0 → (wX8_made 1 a1 (-1) a2 a3 a4 3 I23 (fun r26 I25 => post r26 I25))))))))))) ∧ (¬ 4 ≤ a3 → (wX8_in a4 (-99) 99 I (fun r27 => ((r27 = 0 → ((¬ r1 = 0 → (wX8_goesWell 2 I (fun r29 I28 => ((r29 = 0 → post 0 I28) ∧ (¬ r29 = 0 → (wX8_made 1 a1 (-1) a2 a3 a4 3 I28 (fun r31 I30 => post r31 I30))))))) ∧ (r1 = 0 → (wX8_goesWell 1 I (fun r33 I32 => ((r33 = 0 → post 0 I32) ∧ (¬ r33 = 0 → (wX8_made 1 a1 (-1) a2 a3 a4 3 I32 (fun r35 I34 => post r35 I34))))))))) ∧ (¬ r27 = 0 → ((¬ r1 = 0 → (wX8_goesWell 0 I (fun r37 I36 => ((r37 = 0 → post 0 I36) ∧ (¬ r37 = 0 → (wX8_made 1 a1 (-1) a2 a3 a4 3 I36 (fun r39 I38 => post r39 I38))))))) ∧ (r1 = 0 → (wX8_goesWell 1 I (fun r41 I40 => ((r41 = 0 → post 0 I40) ∧ (¬ r41 = 0 → (wX8_made 1 a1 (-1) a2 a3 a4 3 I40 (fun r43 I42 => post r43 I42))))))))))))))))))))
set_option maxRecDepth 100000 in
set_option maxHeartbeats 4000000 in
theorem s_mX8_filter {X : QX} {S : QS} {a1 : Int32} {a2 : Int32} {a3 : Int32} {a4 : Int32} {I : QI} {J : QJ} {post : Int32 → QI → Prop} (hS : Sh S) (h : wX8_filter a1 a2 a3 a4 I post) : CX X mX8_filter 3 0 0 [.ref 51, .int a1, .int a2, .int a3, .int a4] S I J (q_Pi S (fun r I2 J2 => J = J2 ∧ post r I2)) := by
  refine CX.of (lo := [(0, .ref 51), (1, .int a1), (2, .int a2), (3, .int a3), (4, .int a4)]) ok_mX8_filter rfl (Nat.le_of_ble_eq_true rfl) rfl ?_
  replace h : (wX8_isNodeColumn a1 a2 I (fun r1 => (wX8_in a3 0 5 I (fun r2 => ((r2 = 0 → ((¬ r1 = 0 → (wX8_goesWell 2 I (fun r4 I3 => ((r4 = 0 → post 0 I3) ∧ (¬ r4 = 0 → (wX8_made 1 a1 (-1) a2 a3 a4 3 I3 (fun r6 I5 => post r6 I5))))))) ∧ (r1 = 0 → (wX8_goesWell 1 I (fun r8 I7 => ((r8 = 0 → post 0 I7) ∧ (¬ r8 = 0 → (wX8_made 1 a1 (-1) a2 a3 a4 3 I7 (fun r10 I9 => post r10 I9))))))))) ∧ (¬ r2 = 0 → ((4 ≤ a3 → ((¬ a4 = 0 → ((¬ r1 = 0 → (wX8_goesWell 2 I (fun r12 I11 => ((r12 = 0 → post 0 I11) ∧ (¬ r12 = 0 → (wX8_made 1 a1 (-1) a2 a3 a4 3 I11 (fun r14 I13 => post r14 I13))))))) ∧ (r1 = 0 → (wX8_goesWell 1 I (fun r16 I15 => ((r16 = 0 → post 0 I15) ∧ (¬ r16 = 0 → (wX8_made 1 a1 (-1) a2 a3 a4 3 I15 (fun r18 I17 => post r18 I17))))))))) ∧ (a4 = 0 → ((¬ r1 = 0 → (wX8_goesWell 0 I (fun r20 I19 => ((r20 = 0 → post 0 I19) ∧ (¬ r20 = 0 → (wX8_made 1 a1 (-1) a2 a3 a4 3 I19 (fun r22 I21 => post r22 I21))))))) ∧ (r1 = 0 → (wX8_goesWell 1 I (fun r24 I23 => ((r24 = 0 → post 0 I23) ∧ (¬ r24 = 0 → (wX8_made 1 a1 (-1) a2 a3 a4 3 I23 (fun r26 I25 => post r26 I25))))))))))) ∧ (¬ 4 ≤ a3 → (wX8_in a4 (-99) 99 I (fun r27 => ((r27 = 0 → ((¬ r1 = 0 → (wX8_goesWell 2 I (fun r29 I28 => ((r29 = 0 → post 0 I28) ∧ (¬ r29 = 0 → (wX8_made 1 a1 (-1) a2 a3 a4 3 I28 (fun r31 I30 => post r31 I30))))))) ∧ (r1 = 0 → (wX8_goesWell 1 I (fun r33 I32 => ((r33 = 0 → post 0 I32) ∧ (¬ r33 = 0 → (wX8_made 1 a1 (-1) a2 a3 a4 3 I32 (fun r35 I34 => post r35 I34))))))))) ∧ (¬ r27 = 0 → ((¬ r1 = 0 → (wX8_goesWell 0 I (fun r37 I36 => ((r37 = 0 → post 0 I36) ∧ (¬ r37 = 0 → (wX8_made 1 a1 (-1) a2 a3 a4 3 I36 (fun r39 I38 => post r39 I38))))))) ∧ (r1 = 0 → (wX8_goesWell 1 I (fun r41 I40 => ((r41 = 0 → post 0 I40) ∧ (¬ r41 = 0 → (wX8_made 1 a1 (-1) a2 a3 a4 3 I40 (fun r43 I42 => post r43 I42)))))))))))))))))))) := h
  refine V_aload_n dX8_filter_0 rfl rfl ?_
  refine V_iload_n dX8_filter_1 rfl rfl ?_
  refine V_iload_n dX8_filter_2 rfl rfl ?_
  refine V_callVi (st := []) [.int a1, .int a2] dX8_filter_3 ok_mX8_isNodeColumn rfl ml_RX8_140 in_mX8_isNodeColumn se_mX8_isNodeColumn (hS.n 51 rfl) (hS.k 51 8 rfl) (by decide) rfl (Nat.le_of_ble_eq_true rfl) (by decide) (by decide) (by decide) (s_mX8_isNodeColumn hS h) (fun r1 I9 J9 h => ?_)
  obtain ⟨rfl, rfl, h⟩ := h
  refine V_istore (lo2 := [(5, .int r1), (0, .ref 51), (1, .int a1), (2, .int a2), (3, .int a3), (4, .int a4)]) dX8_filter_6 (by decide) rfl ?_
  refine V_iload_n dX8_filter_8 rfl rfl ?_
  refine V_iconst (v := 0) dX8_filter_9 (by decide) ?_
  refine V_iconst (v := 5) dX8_filter_10 (by decide) ?_
  refine V_callSi (st := []) [.int a3, .int 0, .int 5] dX8_filter_11 ok_mX8_in rfl ml_RX8_104 st_mX8_in (Nat.le_of_ble_eq_true rfl) (by decide) (by decide) (by decide) (s_mX8_in hS h) (fun r2 I9 J9 h => ?_)
  obtain ⟨rfl, rfl, h⟩ := h
  refine V_if_eq 46 dX8_filter_14 rfl (fun hc => ?_) (fun hc => ?_)
  · replace h := h.1 hc
    refine V_iconst (v := 0) dX8_filter_46 (by decide) ?_
    refine V_istore (lo2 := [(6, .int 0), (5, .int r1), (0, .ref 51), (1, .int a1), (2, .int a2), (3, .int a3), (4, .int a4)]) dX8_filter_47 (by decide) rfl ?_
    refine V_aload_n dX8_filter_49 rfl rfl ?_
    refine V_iload dX8_filter_50 rfl ?_
    refine V_if_ne 59 dX8_filter_52 rfl (fun hc => ?_) (fun hc => ?_)
    · replace h := h.1 hc
      refine V_iload dX8_filter_59 rfl ?_
      refine V_if_eq 68 dX8_filter_61 rfl (fun hc => ?_) (fun hc => ?_)
      · refine V_iconst (v := 2) dX8_filter_68 (by decide) ?_
        refine V_callVi (st := []) [.int 2] dX8_filter_69 ok_mX8_goesWell rfl ml_RX8_112 in_mX8_goesWell se_mX8_goesWell (hS.n 51 rfl) (hS.k 51 8 rfl) (by decide) rfl (Nat.le_of_ble_eq_true rfl) (by decide) (by decide) (by decide) (s_mX8_goesWell hS h) (fun r4 I3 J9 h => ?_)
        obtain ⟨rfl, h⟩ := h
        refine V_if_eq 90 dX8_filter_72 rfl (fun hc => ?_) (fun hc => ?_)
        · replace h := h.1 hc
          refine V_iconst (v := 0) dX8_filter_90 (by decide) ?_
          exact V_iret dX8_filter_91 rfl (by decide) (by decide) ⟨_, rfl, rfl, rfl, h⟩
        · replace h := h.2 hc
          refine V_aload_n dX8_filter_75 rfl rfl ?_
          refine V_iconst (v := 1) dX8_filter_76 (by decide) ?_
          refine V_iload_n dX8_filter_77 rfl rfl ?_
          refine V_iconst (v := (-1)) dX8_filter_78 (by decide) ?_
          refine V_iload_n dX8_filter_79 rfl rfl ?_
          refine V_iload_n dX8_filter_80 rfl rfl ?_
          refine V_iload dX8_filter_81 rfl ?_
          refine V_iconst (v := 3) dX8_filter_83 (by decide) ?_
          refine V_callVi (st := []) [.int 1, .int a1, .int (-1), .int a2, .int a3, .int a4, .int 3] dX8_filter_84 ok_mX8_made rfl ml_RX8_136 in_mX8_made se_mX8_made (hS.n 51 rfl) (hS.k 51 8 rfl) (by decide) rfl (Nat.le_of_ble_eq_true rfl) (by decide) (by decide) (by decide) (s_mX8_made hS h) (fun r6 I5 J9 h => ?_)
          obtain ⟨rfl, h⟩ := h
          refine V_goto 91 dX8_filter_87 rfl ?_
          exact V_iret dX8_filter_91 rfl (by decide) (by decide) ⟨_, rfl, rfl, rfl, h⟩
      · first | exact absurd hc (by decide) | exact absurd (by decide) hc
    · replace h := h.2 hc
      refine V_iconst (v := 1) dX8_filter_55 (by decide) ?_
      refine V_goto 69 dX8_filter_56 rfl ?_
      refine V_callVi (st := []) [.int 1] dX8_filter_69 ok_mX8_goesWell rfl ml_RX8_112 in_mX8_goesWell se_mX8_goesWell (hS.n 51 rfl) (hS.k 51 8 rfl) (by decide) rfl (Nat.le_of_ble_eq_true rfl) (by decide) (by decide) (by decide) (s_mX8_goesWell hS h) (fun r8 I7 J9 h => ?_)
      obtain ⟨rfl, h⟩ := h
      refine V_if_eq 90 dX8_filter_72 rfl (fun hc => ?_) (fun hc => ?_)
      · replace h := h.1 hc
        refine V_iconst (v := 0) dX8_filter_90 (by decide) ?_
        exact V_iret dX8_filter_91 rfl (by decide) (by decide) ⟨_, rfl, rfl, rfl, h⟩
      · replace h := h.2 hc
        refine V_aload_n dX8_filter_75 rfl rfl ?_
        refine V_iconst (v := 1) dX8_filter_76 (by decide) ?_
        refine V_iload_n dX8_filter_77 rfl rfl ?_
        refine V_iconst (v := (-1)) dX8_filter_78 (by decide) ?_
        refine V_iload_n dX8_filter_79 rfl rfl ?_
        refine V_iload_n dX8_filter_80 rfl rfl ?_
        refine V_iload dX8_filter_81 rfl ?_
        refine V_iconst (v := 3) dX8_filter_83 (by decide) ?_
        refine V_callVi (st := []) [.int 1, .int a1, .int (-1), .int a2, .int a3, .int a4, .int 3] dX8_filter_84 ok_mX8_made rfl ml_RX8_136 in_mX8_made se_mX8_made (hS.n 51 rfl) (hS.k 51 8 rfl) (by decide) rfl (Nat.le_of_ble_eq_true rfl) (by decide) (by decide) (by decide) (s_mX8_made hS h) (fun r10 I9 J9 h => ?_)
        obtain ⟨rfl, h⟩ := h
        refine V_goto 91 dX8_filter_87 rfl ?_
        exact V_iret dX8_filter_91 rfl (by decide) (by decide) ⟨_, rfl, rfl, rfl, h⟩
  · replace h := h.2 hc
    refine V_iload_n dX8_filter_17 rfl rfl ?_
    refine V_iconst (v := 4) dX8_filter_18 (by decide) ?_
    refine V_icmp_ge 37 dX8_filter_19 rfl (fun hc => ?_) (fun hc => ?_)
    · replace h := h.1 hc
      refine V_iload dX8_filter_37 rfl ?_
      refine V_if_ne 46 dX8_filter_39 rfl (fun hc => ?_) (fun hc => ?_)
      · replace h := h.1 hc
        refine V_iconst (v := 0) dX8_filter_46 (by decide) ?_
        refine V_istore (lo2 := [(6, .int 0), (5, .int r1), (0, .ref 51), (1, .int a1), (2, .int a2), (3, .int a3), (4, .int a4)]) dX8_filter_47 (by decide) rfl ?_
        refine V_aload_n dX8_filter_49 rfl rfl ?_
        refine V_iload dX8_filter_50 rfl ?_
        refine V_if_ne 59 dX8_filter_52 rfl (fun hc => ?_) (fun hc => ?_)
        · replace h := h.1 hc
          refine V_iload dX8_filter_59 rfl ?_
          refine V_if_eq 68 dX8_filter_61 rfl (fun hc => ?_) (fun hc => ?_)
          · refine V_iconst (v := 2) dX8_filter_68 (by decide) ?_
            refine V_callVi (st := []) [.int 2] dX8_filter_69 ok_mX8_goesWell rfl ml_RX8_112 in_mX8_goesWell se_mX8_goesWell (hS.n 51 rfl) (hS.k 51 8 rfl) (by decide) rfl (Nat.le_of_ble_eq_true rfl) (by decide) (by decide) (by decide) (s_mX8_goesWell hS h) (fun r12 I11 J9 h => ?_)
            obtain ⟨rfl, h⟩ := h
            refine V_if_eq 90 dX8_filter_72 rfl (fun hc => ?_) (fun hc => ?_)
            · replace h := h.1 hc
              refine V_iconst (v := 0) dX8_filter_90 (by decide) ?_
              exact V_iret dX8_filter_91 rfl (by decide) (by decide) ⟨_, rfl, rfl, rfl, h⟩
            · replace h := h.2 hc
              refine V_aload_n dX8_filter_75 rfl rfl ?_
              refine V_iconst (v := 1) dX8_filter_76 (by decide) ?_
              refine V_iload_n dX8_filter_77 rfl rfl ?_
              refine V_iconst (v := (-1)) dX8_filter_78 (by decide) ?_
              refine V_iload_n dX8_filter_79 rfl rfl ?_
              refine V_iload_n dX8_filter_80 rfl rfl ?_
              refine V_iload dX8_filter_81 rfl ?_
              refine V_iconst (v := 3) dX8_filter_83 (by decide) ?_
              refine V_callVi (st := []) [.int 1, .int a1, .int (-1), .int a2, .int a3, .int a4, .int 3] dX8_filter_84 ok_mX8_made rfl ml_RX8_136 in_mX8_made se_mX8_made (hS.n 51 rfl) (hS.k 51 8 rfl) (by decide) rfl (Nat.le_of_ble_eq_true rfl) (by decide) (by decide) (by decide) (s_mX8_made hS h) (fun r14 I13 J9 h => ?_)
              obtain ⟨rfl, h⟩ := h
              refine V_goto 91 dX8_filter_87 rfl ?_
              exact V_iret dX8_filter_91 rfl (by decide) (by decide) ⟨_, rfl, rfl, rfl, h⟩
          · first | exact absurd hc (by decide) | exact absurd (by decide) hc
        · replace h := h.2 hc
          refine V_iconst (v := 1) dX8_filter_55 (by decide) ?_
          refine V_goto 69 dX8_filter_56 rfl ?_
          refine V_callVi (st := []) [.int 1] dX8_filter_69 ok_mX8_goesWell rfl ml_RX8_112 in_mX8_goesWell se_mX8_goesWell (hS.n 51 rfl) (hS.k 51 8 rfl) (by decide) rfl (Nat.le_of_ble_eq_true rfl) (by decide) (by decide) (by decide) (s_mX8_goesWell hS h) (fun r16 I15 J9 h => ?_)
          obtain ⟨rfl, h⟩ := h
          refine V_if_eq 90 dX8_filter_72 rfl (fun hc => ?_) (fun hc => ?_)
          · replace h := h.1 hc
            refine V_iconst (v := 0) dX8_filter_90 (by decide) ?_
            exact V_iret dX8_filter_91 rfl (by decide) (by decide) ⟨_, rfl, rfl, rfl, h⟩
          · replace h := h.2 hc
            refine V_aload_n dX8_filter_75 rfl rfl ?_
            refine V_iconst (v := 1) dX8_filter_76 (by decide) ?_
            refine V_iload_n dX8_filter_77 rfl rfl ?_
            refine V_iconst (v := (-1)) dX8_filter_78 (by decide) ?_
            refine V_iload_n dX8_filter_79 rfl rfl ?_
            refine V_iload_n dX8_filter_80 rfl rfl ?_
            refine V_iload dX8_filter_81 rfl ?_
            refine V_iconst (v := 3) dX8_filter_83 (by decide) ?_
            refine V_callVi (st := []) [.int 1, .int a1, .int (-1), .int a2, .int a3, .int a4, .int 3] dX8_filter_84 ok_mX8_made rfl ml_RX8_136 in_mX8_made se_mX8_made (hS.n 51 rfl) (hS.k 51 8 rfl) (by decide) rfl (Nat.le_of_ble_eq_true rfl) (by decide) (by decide) (by decide) (s_mX8_made hS h) (fun r18 I17 J9 h => ?_)
            obtain ⟨rfl, h⟩ := h
            refine V_goto 91 dX8_filter_87 rfl ?_
            exact V_iret dX8_filter_91 rfl (by decide) (by decide) ⟨_, rfl, rfl, rfl, h⟩
      · replace h := h.2 hc
        refine V_iconst (v := 1) dX8_filter_42 (by decide) ?_
        refine V_goto 47 dX8_filter_43 rfl ?_
        refine V_istore (lo2 := [(6, .int 1), (5, .int r1), (0, .ref 51), (1, .int a1), (2, .int a2), (3, .int a3), (4, .int a4)]) dX8_filter_47 (by decide) rfl ?_
        refine V_aload_n dX8_filter_49 rfl rfl ?_
        refine V_iload dX8_filter_50 rfl ?_
        refine V_if_ne 59 dX8_filter_52 rfl (fun hc => ?_) (fun hc => ?_)
        · replace h := h.1 hc
          refine V_iload dX8_filter_59 rfl ?_
          refine V_if_eq 68 dX8_filter_61 rfl (fun hc => ?_) (fun hc => ?_)
          · first | exact absurd hc (by decide) | exact absurd (by decide) hc
          · refine V_iconst (v := 0) dX8_filter_64 (by decide) ?_
            refine V_goto 69 dX8_filter_65 rfl ?_
            refine V_callVi (st := []) [.int 0] dX8_filter_69 ok_mX8_goesWell rfl ml_RX8_112 in_mX8_goesWell se_mX8_goesWell (hS.n 51 rfl) (hS.k 51 8 rfl) (by decide) rfl (Nat.le_of_ble_eq_true rfl) (by decide) (by decide) (by decide) (s_mX8_goesWell hS h) (fun r20 I19 J9 h => ?_)
            obtain ⟨rfl, h⟩ := h
            refine V_if_eq 90 dX8_filter_72 rfl (fun hc => ?_) (fun hc => ?_)
            · replace h := h.1 hc
              refine V_iconst (v := 0) dX8_filter_90 (by decide) ?_
              exact V_iret dX8_filter_91 rfl (by decide) (by decide) ⟨_, rfl, rfl, rfl, h⟩
            · replace h := h.2 hc
              refine V_aload_n dX8_filter_75 rfl rfl ?_
              refine V_iconst (v := 1) dX8_filter_76 (by decide) ?_
              refine V_iload_n dX8_filter_77 rfl rfl ?_
              refine V_iconst (v := (-1)) dX8_filter_78 (by decide) ?_
              refine V_iload_n dX8_filter_79 rfl rfl ?_
              refine V_iload_n dX8_filter_80 rfl rfl ?_
              refine V_iload dX8_filter_81 rfl ?_
              refine V_iconst (v := 3) dX8_filter_83 (by decide) ?_
              refine V_callVi (st := []) [.int 1, .int a1, .int (-1), .int a2, .int a3, .int a4, .int 3] dX8_filter_84 ok_mX8_made rfl ml_RX8_136 in_mX8_made se_mX8_made (hS.n 51 rfl) (hS.k 51 8 rfl) (by decide) rfl (Nat.le_of_ble_eq_true rfl) (by decide) (by decide) (by decide) (s_mX8_made hS h) (fun r22 I21 J9 h => ?_)
              obtain ⟨rfl, h⟩ := h
              refine V_goto 91 dX8_filter_87 rfl ?_
              exact V_iret dX8_filter_91 rfl (by decide) (by decide) ⟨_, rfl, rfl, rfl, h⟩
        · replace h := h.2 hc
          refine V_iconst (v := 1) dX8_filter_55 (by decide) ?_
          refine V_goto 69 dX8_filter_56 rfl ?_
          refine V_callVi (st := []) [.int 1] dX8_filter_69 ok_mX8_goesWell rfl ml_RX8_112 in_mX8_goesWell se_mX8_goesWell (hS.n 51 rfl) (hS.k 51 8 rfl) (by decide) rfl (Nat.le_of_ble_eq_true rfl) (by decide) (by decide) (by decide) (s_mX8_goesWell hS h) (fun r24 I23 J9 h => ?_)
          obtain ⟨rfl, h⟩ := h
          refine V_if_eq 90 dX8_filter_72 rfl (fun hc => ?_) (fun hc => ?_)
          · replace h := h.1 hc
            refine V_iconst (v := 0) dX8_filter_90 (by decide) ?_
            exact V_iret dX8_filter_91 rfl (by decide) (by decide) ⟨_, rfl, rfl, rfl, h⟩
          · replace h := h.2 hc
            refine V_aload_n dX8_filter_75 rfl rfl ?_
            refine V_iconst (v := 1) dX8_filter_76 (by decide) ?_
            refine V_iload_n dX8_filter_77 rfl rfl ?_
            refine V_iconst (v := (-1)) dX8_filter_78 (by decide) ?_
            refine V_iload_n dX8_filter_79 rfl rfl ?_
            refine V_iload_n dX8_filter_80 rfl rfl ?_
            refine V_iload dX8_filter_81 rfl ?_
            refine V_iconst (v := 3) dX8_filter_83 (by decide) ?_
            refine V_callVi (st := []) [.int 1, .int a1, .int (-1), .int a2, .int a3, .int a4, .int 3] dX8_filter_84 ok_mX8_made rfl ml_RX8_136 in_mX8_made se_mX8_made (hS.n 51 rfl) (hS.k 51 8 rfl) (by decide) rfl (Nat.le_of_ble_eq_true rfl) (by decide) (by decide) (by decide) (s_mX8_made hS h) (fun r26 I25 J9 h => ?_)
            obtain ⟨rfl, h⟩ := h
            refine V_goto 91 dX8_filter_87 rfl ?_
            exact V_iret dX8_filter_91 rfl (by decide) (by decide) ⟨_, rfl, rfl, rfl, h⟩
    · replace h := h.2 hc
      refine V_iload dX8_filter_22 rfl ?_
      refine V_bipush (v := (-99)) dX8_filter_24 (by decide) ?_
      refine V_bipush (v := 99) dX8_filter_26 (by decide) ?_
      refine V_callSi (st := []) [.int a4, .int (-99), .int 99] dX8_filter_28 ok_mX8_in rfl ml_RX8_104 st_mX8_in (Nat.le_of_ble_eq_true rfl) (by decide) (by decide) (by decide) (s_mX8_in hS h) (fun r27 I9 J9 h => ?_)
      obtain ⟨rfl, rfl, h⟩ := h
      refine V_if_eq 46 dX8_filter_31 rfl (fun hc => ?_) (fun hc => ?_)
      · replace h := h.1 hc
        refine V_iconst (v := 0) dX8_filter_46 (by decide) ?_
        refine V_istore (lo2 := [(6, .int 0), (5, .int r1), (0, .ref 51), (1, .int a1), (2, .int a2), (3, .int a3), (4, .int a4)]) dX8_filter_47 (by decide) rfl ?_
        refine V_aload_n dX8_filter_49 rfl rfl ?_
        refine V_iload dX8_filter_50 rfl ?_
        refine V_if_ne 59 dX8_filter_52 rfl (fun hc => ?_) (fun hc => ?_)
        · replace h := h.1 hc
          refine V_iload dX8_filter_59 rfl ?_
          refine V_if_eq 68 dX8_filter_61 rfl (fun hc => ?_) (fun hc => ?_)
          · refine V_iconst (v := 2) dX8_filter_68 (by decide) ?_
            refine V_callVi (st := []) [.int 2] dX8_filter_69 ok_mX8_goesWell rfl ml_RX8_112 in_mX8_goesWell se_mX8_goesWell (hS.n 51 rfl) (hS.k 51 8 rfl) (by decide) rfl (Nat.le_of_ble_eq_true rfl) (by decide) (by decide) (by decide) (s_mX8_goesWell hS h) (fun r29 I28 J9 h => ?_)
            obtain ⟨rfl, h⟩ := h
            refine V_if_eq 90 dX8_filter_72 rfl (fun hc => ?_) (fun hc => ?_)
            · replace h := h.1 hc
              refine V_iconst (v := 0) dX8_filter_90 (by decide) ?_
              exact V_iret dX8_filter_91 rfl (by decide) (by decide) ⟨_, rfl, rfl, rfl, h⟩
            · replace h := h.2 hc
              refine V_aload_n dX8_filter_75 rfl rfl ?_
              refine V_iconst (v := 1) dX8_filter_76 (by decide) ?_
              refine V_iload_n dX8_filter_77 rfl rfl ?_
              refine V_iconst (v := (-1)) dX8_filter_78 (by decide) ?_
              refine V_iload_n dX8_filter_79 rfl rfl ?_
              refine V_iload_n dX8_filter_80 rfl rfl ?_
              refine V_iload dX8_filter_81 rfl ?_
              refine V_iconst (v := 3) dX8_filter_83 (by decide) ?_
              refine V_callVi (st := []) [.int 1, .int a1, .int (-1), .int a2, .int a3, .int a4, .int 3] dX8_filter_84 ok_mX8_made rfl ml_RX8_136 in_mX8_made se_mX8_made (hS.n 51 rfl) (hS.k 51 8 rfl) (by decide) rfl (Nat.le_of_ble_eq_true rfl) (by decide) (by decide) (by decide) (s_mX8_made hS h) (fun r31 I30 J9 h => ?_)
              obtain ⟨rfl, h⟩ := h
              refine V_goto 91 dX8_filter_87 rfl ?_
              exact V_iret dX8_filter_91 rfl (by decide) (by decide) ⟨_, rfl, rfl, rfl, h⟩
          · first | exact absurd hc (by decide) | exact absurd (by decide) hc
        · replace h := h.2 hc
          refine V_iconst (v := 1) dX8_filter_55 (by decide) ?_
          refine V_goto 69 dX8_filter_56 rfl ?_
          refine V_callVi (st := []) [.int 1] dX8_filter_69 ok_mX8_goesWell rfl ml_RX8_112 in_mX8_goesWell se_mX8_goesWell (hS.n 51 rfl) (hS.k 51 8 rfl) (by decide) rfl (Nat.le_of_ble_eq_true rfl) (by decide) (by decide) (by decide) (s_mX8_goesWell hS h) (fun r33 I32 J9 h => ?_)
          obtain ⟨rfl, h⟩ := h
          refine V_if_eq 90 dX8_filter_72 rfl (fun hc => ?_) (fun hc => ?_)
          · replace h := h.1 hc
            refine V_iconst (v := 0) dX8_filter_90 (by decide) ?_
            exact V_iret dX8_filter_91 rfl (by decide) (by decide) ⟨_, rfl, rfl, rfl, h⟩
          · replace h := h.2 hc
            refine V_aload_n dX8_filter_75 rfl rfl ?_
            refine V_iconst (v := 1) dX8_filter_76 (by decide) ?_
            refine V_iload_n dX8_filter_77 rfl rfl ?_
            refine V_iconst (v := (-1)) dX8_filter_78 (by decide) ?_
            refine V_iload_n dX8_filter_79 rfl rfl ?_
            refine V_iload_n dX8_filter_80 rfl rfl ?_
            refine V_iload dX8_filter_81 rfl ?_
            refine V_iconst (v := 3) dX8_filter_83 (by decide) ?_
            refine V_callVi (st := []) [.int 1, .int a1, .int (-1), .int a2, .int a3, .int a4, .int 3] dX8_filter_84 ok_mX8_made rfl ml_RX8_136 in_mX8_made se_mX8_made (hS.n 51 rfl) (hS.k 51 8 rfl) (by decide) rfl (Nat.le_of_ble_eq_true rfl) (by decide) (by decide) (by decide) (s_mX8_made hS h) (fun r35 I34 J9 h => ?_)
            obtain ⟨rfl, h⟩ := h
            refine V_goto 91 dX8_filter_87 rfl ?_
            exact V_iret dX8_filter_91 rfl (by decide) (by decide) ⟨_, rfl, rfl, rfl, h⟩
      · replace h := h.2 hc
        refine V_goto 42 dX8_filter_34 rfl ?_
        refine V_iconst (v := 1) dX8_filter_42 (by decide) ?_
        refine V_goto 47 dX8_filter_43 rfl ?_
        refine V_istore (lo2 := [(6, .int 1), (5, .int r1), (0, .ref 51), (1, .int a1), (2, .int a2), (3, .int a3), (4, .int a4)]) dX8_filter_47 (by decide) rfl ?_
        refine V_aload_n dX8_filter_49 rfl rfl ?_
        refine V_iload dX8_filter_50 rfl ?_
        refine V_if_ne 59 dX8_filter_52 rfl (fun hc => ?_) (fun hc => ?_)
        · replace h := h.1 hc
          refine V_iload dX8_filter_59 rfl ?_
          refine V_if_eq 68 dX8_filter_61 rfl (fun hc => ?_) (fun hc => ?_)
          · first | exact absurd hc (by decide) | exact absurd (by decide) hc
          · refine V_iconst (v := 0) dX8_filter_64 (by decide) ?_
            refine V_goto 69 dX8_filter_65 rfl ?_
            refine V_callVi (st := []) [.int 0] dX8_filter_69 ok_mX8_goesWell rfl ml_RX8_112 in_mX8_goesWell se_mX8_goesWell (hS.n 51 rfl) (hS.k 51 8 rfl) (by decide) rfl (Nat.le_of_ble_eq_true rfl) (by decide) (by decide) (by decide) (s_mX8_goesWell hS h) (fun r37 I36 J9 h => ?_)
            obtain ⟨rfl, h⟩ := h
            refine V_if_eq 90 dX8_filter_72 rfl (fun hc => ?_) (fun hc => ?_)
            · replace h := h.1 hc
              refine V_iconst (v := 0) dX8_filter_90 (by decide) ?_
              exact V_iret dX8_filter_91 rfl (by decide) (by decide) ⟨_, rfl, rfl, rfl, h⟩
            · replace h := h.2 hc
              refine V_aload_n dX8_filter_75 rfl rfl ?_
              refine V_iconst (v := 1) dX8_filter_76 (by decide) ?_
              refine V_iload_n dX8_filter_77 rfl rfl ?_
              refine V_iconst (v := (-1)) dX8_filter_78 (by decide) ?_
              refine V_iload_n dX8_filter_79 rfl rfl ?_
              refine V_iload_n dX8_filter_80 rfl rfl ?_
              refine V_iload dX8_filter_81 rfl ?_
              refine V_iconst (v := 3) dX8_filter_83 (by decide) ?_
              refine V_callVi (st := []) [.int 1, .int a1, .int (-1), .int a2, .int a3, .int a4, .int 3] dX8_filter_84 ok_mX8_made rfl ml_RX8_136 in_mX8_made se_mX8_made (hS.n 51 rfl) (hS.k 51 8 rfl) (by decide) rfl (Nat.le_of_ble_eq_true rfl) (by decide) (by decide) (by decide) (s_mX8_made hS h) (fun r39 I38 J9 h => ?_)
              obtain ⟨rfl, h⟩ := h
              refine V_goto 91 dX8_filter_87 rfl ?_
              exact V_iret dX8_filter_91 rfl (by decide) (by decide) ⟨_, rfl, rfl, rfl, h⟩
        · replace h := h.2 hc
          refine V_iconst (v := 1) dX8_filter_55 (by decide) ?_
          refine V_goto 69 dX8_filter_56 rfl ?_
          refine V_callVi (st := []) [.int 1] dX8_filter_69 ok_mX8_goesWell rfl ml_RX8_112 in_mX8_goesWell se_mX8_goesWell (hS.n 51 rfl) (hS.k 51 8 rfl) (by decide) rfl (Nat.le_of_ble_eq_true rfl) (by decide) (by decide) (by decide) (s_mX8_goesWell hS h) (fun r41 I40 J9 h => ?_)
          obtain ⟨rfl, h⟩ := h
          refine V_if_eq 90 dX8_filter_72 rfl (fun hc => ?_) (fun hc => ?_)
          · replace h := h.1 hc
            refine V_iconst (v := 0) dX8_filter_90 (by decide) ?_
            exact V_iret dX8_filter_91 rfl (by decide) (by decide) ⟨_, rfl, rfl, rfl, h⟩
          · replace h := h.2 hc
            refine V_aload_n dX8_filter_75 rfl rfl ?_
            refine V_iconst (v := 1) dX8_filter_76 (by decide) ?_
            refine V_iload_n dX8_filter_77 rfl rfl ?_
            refine V_iconst (v := (-1)) dX8_filter_78 (by decide) ?_
            refine V_iload_n dX8_filter_79 rfl rfl ?_
            refine V_iload_n dX8_filter_80 rfl rfl ?_
            refine V_iload dX8_filter_81 rfl ?_
            refine V_iconst (v := 3) dX8_filter_83 (by decide) ?_
            refine V_callVi (st := []) [.int 1, .int a1, .int (-1), .int a2, .int a3, .int a4, .int 3] dX8_filter_84 ok_mX8_made rfl ml_RX8_136 in_mX8_made se_mX8_made (hS.n 51 rfl) (hS.k 51 8 rfl) (by decide) rfl (Nat.le_of_ble_eq_true rfl) (by decide) (by decide) (by decide) (s_mX8_made hS h) (fun r43 I42 J9 h => ?_)
            obtain ⟨rfl, h⟩ := h
            refine V_goto 91 dX8_filter_87 rfl ?_
            exact V_iret dX8_filter_91 rfl (by decide) (by decide) ⟨_, rfl, rfl, rfl, h⟩
def wX8_join (a1 : Int32) (a2 : Int32) (a3 : Int32) (a4 : Int32) (a5 : Int32) (I : QI) (post : Int32 → QI → Prop) : Prop := (wX8_isNodeColumn a1 a3 I (fun r1 => ((r1 = 0 → (wX8_in a5 0 4 I (fun r2 => (wX8_goesWell 1 I (fun r4 I3 => ((r4 = 0 → post 0 I3) ∧ (¬ r4 = 0 → (wX8_made 2 a1 a2 a3 a4 a5 3 I3 (fun r6 I5 => post r6 I5))))))))) ∧ (¬ r1 = 0 → (wX8_isNodeColumn a2 a4 I (fun r7 => ((r7 = 0 → (wX8_in a5 0 4 I (fun r8 => (wX8_goesWell 1 I (fun r10 I9 => ((r10 = 0 → post 0 I9) ∧ (¬ r10 = 0 → (wX8_made 2 a1 a2 a3 a4 a5 3 I9 (fun r12 I11 => post r12 I11))))))))) ∧ (¬ r7 = 0 → (wX8_in a5 0 4 I (fun r13 => ((2 ≤ a5 → ((¬ r13 = 0 → (wX8_goesWell 0 I (fun r15 I14 => ((r15 = 0 → post 0 I14) ∧ (¬ r15 = 0 → (wX8_made 2 a1 a2 a3 a4 a5 3 I14 (fun r17 I16 => post r17 I16))))))) ∧ (r13 = 0 → (wX8_goesWell 2 I (fun r19 I18 => ((r19 = 0 → post 0 I18) ∧ (¬ r19 = 0 → (wX8_made 2 a1 a2 a3 a4 a5 3 I18 (fun r21 I20 => post r21 I20))))))))) ∧ (¬ 2 ≤ a5 → (vp_in a1 24 ∧ (vp_in a2 24 ∧ ((6 < ((I 61 (a1).toNatClampNeg) + (I 61 (a2).toNatClampNeg)) → ((¬ r13 = 0 → (wX8_goesWell 3 I (fun r23 I22 => ((r23 = 0 → post 0 I22) ∧ (¬ r23 = 0 → (wX8_made 2 a1 a2 a3 a4 a5 3 I22 (fun r25 I24 => post r25 I24))))))) ∧ (r13 = 0 → (wX8_goesWell 2 I (fun r27 I26 => ((r27 = 0 → post 0 I26) ∧ (¬ r27 = 0 → (wX8_made 2 a1 a2 a3 a4 a5 3 I26 (fun r29 I28 => post r29 I28))))))))) ∧ (¬ 6 < ((I 61 (a1).toNatClampNeg) + (I 61 (a2).toNatClampNeg)) → ((¬ r13 = 0 → (wX8_goesWell 0 I (fun r31 I30 => ((r31 = 0 → post 0 I30) ∧ (¬ r31 = 0 → (wX8_made 2 a1 a2 a3 a4 a5 3 I30 (fun r33 I32 => post r33 I32))))))) ∧ (r13 = 0 → (wX8_goesWell 2 I (fun r35 I34 => ((r35 = 0 → post 0 I34) ∧ (¬ r35 = 0 → (wX8_made 2 a1 a2 a3 a4 a5 3 I34 (fun r37 I36 => post r37 I36))))))))))))))))))))))))
set_option maxRecDepth 100000 in
set_option maxHeartbeats 4000000 in
theorem s_mX8_join {X : QX} {S : QS} {a1 : Int32} {a2 : Int32} {a3 : Int32} {a4 : Int32} {a5 : Int32} {I : QI} {J : QJ} {post : Int32 → QI → Prop} (hS : Sh S) (h : wX8_join a1 a2 a3 a4 a5 I post) : CX X mX8_join 3 0 0 [.ref 51, .int a1, .int a2, .int a3, .int a4, .int a5] S I J (q_Pi S (fun r I2 J2 => J = J2 ∧ post r I2)) := by
  refine CX.of (lo := [(0, .ref 51), (1, .int a1), (2, .int a2), (3, .int a3), (4, .int a4), (5, .int a5)]) ok_mX8_join rfl (Nat.le_of_ble_eq_true rfl) rfl ?_
  replace h : (wX8_isNodeColumn a1 a3 I (fun r1 => ((r1 = 0 → (wX8_in a5 0 4 I (fun r2 => (wX8_goesWell 1 I (fun r4 I3 => ((r4 = 0 → post 0 I3) ∧ (¬ r4 = 0 → (wX8_made 2 a1 a2 a3 a4 a5 3 I3 (fun r6 I5 => post r6 I5))))))))) ∧ (¬ r1 = 0 → (wX8_isNodeColumn a2 a4 I (fun r7 => ((r7 = 0 → (wX8_in a5 0 4 I (fun r8 => (wX8_goesWell 1 I (fun r10 I9 => ((r10 = 0 → post 0 I9) ∧ (¬ r10 = 0 → (wX8_made 2 a1 a2 a3 a4 a5 3 I9 (fun r12 I11 => post r12 I11))))))))) ∧ (¬ r7 = 0 → (wX8_in a5 0 4 I (fun r13 => ((2 ≤ a5 → ((¬ r13 = 0 → (wX8_goesWell 0 I (fun r15 I14 => ((r15 = 0 → post 0 I14) ∧ (¬ r15 = 0 → (wX8_made 2 a1 a2 a3 a4 a5 3 I14 (fun r17 I16 => post r17 I16))))))) ∧ (r13 = 0 → (wX8_goesWell 2 I (fun r19 I18 => ((r19 = 0 → post 0 I18) ∧ (¬ r19 = 0 → (wX8_made 2 a1 a2 a3 a4 a5 3 I18 (fun r21 I20 => post r21 I20))))))))) ∧ (¬ 2 ≤ a5 → (vp_in a1 24 ∧ (vp_in a2 24 ∧ ((6 < ((I 61 (a1).toNatClampNeg) + (I 61 (a2).toNatClampNeg)) → ((¬ r13 = 0 → (wX8_goesWell 3 I (fun r23 I22 => ((r23 = 0 → post 0 I22) ∧ (¬ r23 = 0 → (wX8_made 2 a1 a2 a3 a4 a5 3 I22 (fun r25 I24 => post r25 I24))))))) ∧ (r13 = 0 → (wX8_goesWell 2 I (fun r27 I26 => ((r27 = 0 → post 0 I26) ∧ (¬ r27 = 0 → (wX8_made 2 a1 a2 a3 a4 a5 3 I26 (fun r29 I28 => post r29 I28))))))))) ∧ (¬ 6 < ((I 61 (a1).toNatClampNeg) + (I 61 (a2).toNatClampNeg)) → ((¬ r13 = 0 → (wX8_goesWell 0 I (fun r31 I30 => ((r31 = 0 → post 0 I30) ∧ (¬ r31 = 0 → (wX8_made 2 a1 a2 a3 a4 a5 3 I30 (fun r33 I32 => post r33 I32))))))) ∧ (r13 = 0 → (wX8_goesWell 2 I (fun r35 I34 => ((r35 = 0 → post 0 I34) ∧ (¬ r35 = 0 → (wX8_made 2 a1 a2 a3 a4 a5 3 I34 (fun r37 I36 => post r37 I36)))))))))))))))))))))))) := h
  refine V_aload_n dX8_join_0 rfl rfl ?_
  refine V_iload_n dX8_join_1 rfl rfl ?_
  refine V_iload_n dX8_join_2 rfl rfl ?_
  refine V_callVi (st := []) [.int a1, .int a3] dX8_join_3 ok_mX8_isNodeColumn rfl ml_RX8_140 in_mX8_isNodeColumn se_mX8_isNodeColumn (hS.n 51 rfl) (hS.k 51 8 rfl) (by decide) rfl (Nat.le_of_ble_eq_true rfl) (by decide) (by decide) (by decide) (s_mX8_isNodeColumn hS h) (fun r1 I9 J9 h => ?_)
  obtain ⟨rfl, rfl, h⟩ := h
  refine V_if_eq 23 dX8_join_6 rfl (fun hc => ?_) (fun hc => ?_)
  · replace h := h.1 hc
    refine V_iconst (v := 0) dX8_join_23 (by decide) ?_
    refine V_istore (lo2 := [(6, .int 0), (0, .ref 51), (1, .int a1), (2, .int a2), (3, .int a3), (4, .int a4), (5, .int a5)]) dX8_join_24 (by decide) rfl ?_
    refine V_iload dX8_join_26 rfl ?_
    refine V_iconst (v := 0) dX8_join_28 (by decide) ?_
    refine V_iconst (v := 4) dX8_join_29 (by decide) ?_
    refine V_callSi (st := []) [.int a5, .int 0, .int 4] dX8_join_30 ok_mX8_in rfl ml_RX8_104 st_mX8_in (Nat.le_of_ble_eq_true rfl) (by decide) (by decide) (by decide) (s_mX8_in hS h) (fun r2 I9 J9 h => ?_)
    obtain ⟨rfl, rfl, h⟩ := h
    refine V_istore (lo2 := [(7, .int r2), (6, .int 0), (0, .ref 51), (1, .int a1), (2, .int a2), (3, .int a3), (4, .int a4), (5, .int a5)]) dX8_join_33 (by decide) rfl ?_
    refine V_iload dX8_join_35 rfl ?_
    refine V_if_eq 68 dX8_join_37 rfl (fun hc => ?_) (fun hc => ?_)
    · refine V_iconst (v := 0) dX8_join_68 (by decide) ?_
      refine V_istore (lo2 := [(8, .int 0), (7, .int r2), (6, .int 0), (0, .ref 51), (1, .int a1), (2, .int a2), (3, .int a3), (4, .int a4), (5, .int a5)]) dX8_join_69 (by decide) rfl ?_
      refine V_aload_n dX8_join_71 rfl rfl ?_
      refine V_iload dX8_join_72 rfl ?_
      refine V_if_ne 81 dX8_join_74 rfl (fun hc => ?_) (fun hc => ?_)
      · first | exact absurd hc (by decide) | exact absurd (by decide) hc
      · refine V_iconst (v := 1) dX8_join_77 (by decide) ?_
        refine V_goto 100 dX8_join_78 rfl ?_
        refine V_callVi (st := []) [.int 1] dX8_join_100 ok_mX8_goesWell rfl ml_RX8_112 in_mX8_goesWell se_mX8_goesWell (hS.n 51 rfl) (hS.k 51 8 rfl) (by decide) rfl (Nat.le_of_ble_eq_true rfl) (by decide) (by decide) (by decide) (s_mX8_goesWell hS h) (fun r4 I3 J9 h => ?_)
        obtain ⟨rfl, h⟩ := h
        refine V_if_eq 122 dX8_join_103 rfl (fun hc => ?_) (fun hc => ?_)
        · replace h := h.1 hc
          refine V_iconst (v := 0) dX8_join_122 (by decide) ?_
          exact V_iret dX8_join_123 rfl (by decide) (by decide) ⟨_, rfl, rfl, rfl, h⟩
        · replace h := h.2 hc
          refine V_aload_n dX8_join_106 rfl rfl ?_
          refine V_iconst (v := 2) dX8_join_107 (by decide) ?_
          refine V_iload_n dX8_join_108 rfl rfl ?_
          refine V_iload_n dX8_join_109 rfl rfl ?_
          refine V_iload_n dX8_join_110 rfl rfl ?_
          refine V_iload dX8_join_111 rfl ?_
          refine V_iload dX8_join_113 rfl ?_
          refine V_iconst (v := 3) dX8_join_115 (by decide) ?_
          refine V_callVi (st := []) [.int 2, .int a1, .int a2, .int a3, .int a4, .int a5, .int 3] dX8_join_116 ok_mX8_made rfl ml_RX8_136 in_mX8_made se_mX8_made (hS.n 51 rfl) (hS.k 51 8 rfl) (by decide) rfl (Nat.le_of_ble_eq_true rfl) (by decide) (by decide) (by decide) (s_mX8_made hS h) (fun r6 I5 J9 h => ?_)
          obtain ⟨rfl, h⟩ := h
          refine V_goto 123 dX8_join_119 rfl ?_
          exact V_iret dX8_join_123 rfl (by decide) (by decide) ⟨_, rfl, rfl, rfl, h⟩
    · first | exact absurd hc (by decide) | exact absurd (by decide) hc
  · replace h := h.2 hc
    refine V_aload_n dX8_join_9 rfl rfl ?_
    refine V_iload_n dX8_join_10 rfl rfl ?_
    refine V_iload dX8_join_11 rfl ?_
    refine V_callVi (st := []) [.int a2, .int a4] dX8_join_13 ok_mX8_isNodeColumn rfl ml_RX8_140 in_mX8_isNodeColumn se_mX8_isNodeColumn (hS.n 51 rfl) (hS.k 51 8 rfl) (by decide) rfl (Nat.le_of_ble_eq_true rfl) (by decide) (by decide) (by decide) (s_mX8_isNodeColumn hS h) (fun r7 I9 J9 h => ?_)
    obtain ⟨rfl, rfl, h⟩ := h
    refine V_if_eq 23 dX8_join_16 rfl (fun hc => ?_) (fun hc => ?_)
    · replace h := h.1 hc
      refine V_iconst (v := 0) dX8_join_23 (by decide) ?_
      refine V_istore (lo2 := [(6, .int 0), (0, .ref 51), (1, .int a1), (2, .int a2), (3, .int a3), (4, .int a4), (5, .int a5)]) dX8_join_24 (by decide) rfl ?_
      refine V_iload dX8_join_26 rfl ?_
      refine V_iconst (v := 0) dX8_join_28 (by decide) ?_
      refine V_iconst (v := 4) dX8_join_29 (by decide) ?_
      refine V_callSi (st := []) [.int a5, .int 0, .int 4] dX8_join_30 ok_mX8_in rfl ml_RX8_104 st_mX8_in (Nat.le_of_ble_eq_true rfl) (by decide) (by decide) (by decide) (s_mX8_in hS h) (fun r8 I9 J9 h => ?_)
      obtain ⟨rfl, rfl, h⟩ := h
      refine V_istore (lo2 := [(7, .int r8), (6, .int 0), (0, .ref 51), (1, .int a1), (2, .int a2), (3, .int a3), (4, .int a4), (5, .int a5)]) dX8_join_33 (by decide) rfl ?_
      refine V_iload dX8_join_35 rfl ?_
      refine V_if_eq 68 dX8_join_37 rfl (fun hc => ?_) (fun hc => ?_)
      · refine V_iconst (v := 0) dX8_join_68 (by decide) ?_
        refine V_istore (lo2 := [(8, .int 0), (7, .int r8), (6, .int 0), (0, .ref 51), (1, .int a1), (2, .int a2), (3, .int a3), (4, .int a4), (5, .int a5)]) dX8_join_69 (by decide) rfl ?_
        refine V_aload_n dX8_join_71 rfl rfl ?_
        refine V_iload dX8_join_72 rfl ?_
        refine V_if_ne 81 dX8_join_74 rfl (fun hc => ?_) (fun hc => ?_)
        · first | exact absurd hc (by decide) | exact absurd (by decide) hc
        · refine V_iconst (v := 1) dX8_join_77 (by decide) ?_
          refine V_goto 100 dX8_join_78 rfl ?_
          refine V_callVi (st := []) [.int 1] dX8_join_100 ok_mX8_goesWell rfl ml_RX8_112 in_mX8_goesWell se_mX8_goesWell (hS.n 51 rfl) (hS.k 51 8 rfl) (by decide) rfl (Nat.le_of_ble_eq_true rfl) (by decide) (by decide) (by decide) (s_mX8_goesWell hS h) (fun r10 I9 J9 h => ?_)
          obtain ⟨rfl, h⟩ := h
          refine V_if_eq 122 dX8_join_103 rfl (fun hc => ?_) (fun hc => ?_)
          · replace h := h.1 hc
            refine V_iconst (v := 0) dX8_join_122 (by decide) ?_
            exact V_iret dX8_join_123 rfl (by decide) (by decide) ⟨_, rfl, rfl, rfl, h⟩
          · replace h := h.2 hc
            refine V_aload_n dX8_join_106 rfl rfl ?_
            refine V_iconst (v := 2) dX8_join_107 (by decide) ?_
            refine V_iload_n dX8_join_108 rfl rfl ?_
            refine V_iload_n dX8_join_109 rfl rfl ?_
            refine V_iload_n dX8_join_110 rfl rfl ?_
            refine V_iload dX8_join_111 rfl ?_
            refine V_iload dX8_join_113 rfl ?_
            refine V_iconst (v := 3) dX8_join_115 (by decide) ?_
            refine V_callVi (st := []) [.int 2, .int a1, .int a2, .int a3, .int a4, .int a5, .int 3] dX8_join_116 ok_mX8_made rfl ml_RX8_136 in_mX8_made se_mX8_made (hS.n 51 rfl) (hS.k 51 8 rfl) (by decide) rfl (Nat.le_of_ble_eq_true rfl) (by decide) (by decide) (by decide) (s_mX8_made hS h) (fun r12 I11 J9 h => ?_)
            obtain ⟨rfl, h⟩ := h
            refine V_goto 123 dX8_join_119 rfl ?_
            exact V_iret dX8_join_123 rfl (by decide) (by decide) ⟨_, rfl, rfl, rfl, h⟩
      · first | exact absurd hc (by decide) | exact absurd (by decide) hc
    · replace h := h.2 hc
      refine V_iconst (v := 1) dX8_join_19 (by decide) ?_
      refine V_goto 24 dX8_join_20 rfl ?_
      refine V_istore (lo2 := [(6, .int 1), (0, .ref 51), (1, .int a1), (2, .int a2), (3, .int a3), (4, .int a4), (5, .int a5)]) dX8_join_24 (by decide) rfl ?_
      refine V_iload dX8_join_26 rfl ?_
      refine V_iconst (v := 0) dX8_join_28 (by decide) ?_
      refine V_iconst (v := 4) dX8_join_29 (by decide) ?_
      refine V_callSi (st := []) [.int a5, .int 0, .int 4] dX8_join_30 ok_mX8_in rfl ml_RX8_104 st_mX8_in (Nat.le_of_ble_eq_true rfl) (by decide) (by decide) (by decide) (s_mX8_in hS h) (fun r13 I9 J9 h => ?_)
      obtain ⟨rfl, rfl, h⟩ := h
      refine V_istore (lo2 := [(7, .int r13), (6, .int 1), (0, .ref 51), (1, .int a1), (2, .int a2), (3, .int a3), (4, .int a4), (5, .int a5)]) dX8_join_33 (by decide) rfl ?_
      refine V_iload dX8_join_35 rfl ?_
      refine V_if_eq 68 dX8_join_37 rfl (fun hc => ?_) (fun hc => ?_)
      · first | exact absurd hc (by decide) | exact absurd (by decide) hc
      · refine V_iload dX8_join_40 rfl ?_
        refine V_iconst (v := 2) dX8_join_42 (by decide) ?_
        refine V_icmp_ge 64 dX8_join_43 rfl (fun hc => ?_) (fun hc => ?_)
        · replace h := h.1 hc
          refine V_iconst (v := 1) dX8_join_64 (by decide) ?_
          refine V_goto 69 dX8_join_65 rfl ?_
          refine V_istore (lo2 := [(8, .int 1), (7, .int r13), (6, .int 1), (0, .ref 51), (1, .int a1), (2, .int a2), (3, .int a3), (4, .int a4), (5, .int a5)]) dX8_join_69 (by decide) rfl ?_
          refine V_aload_n dX8_join_71 rfl rfl ?_
          refine V_iload dX8_join_72 rfl ?_
          refine V_if_ne 81 dX8_join_74 rfl (fun hc => ?_) (fun hc => ?_)
          · refine V_iload dX8_join_81 rfl ?_
            refine V_if_ne 90 dX8_join_83 rfl (fun hc => ?_) (fun hc => ?_)
            · replace h := h.1 hc
              refine V_iload dX8_join_90 rfl ?_
              refine V_if_eq 99 dX8_join_92 rfl (fun hc => ?_) (fun hc => ?_)
              · first | exact absurd hc (by decide) | exact absurd (by decide) hc
              · refine V_iconst (v := 0) dX8_join_95 (by decide) ?_
                refine V_goto 100 dX8_join_96 rfl ?_
                refine V_callVi (st := []) [.int 0] dX8_join_100 ok_mX8_goesWell rfl ml_RX8_112 in_mX8_goesWell se_mX8_goesWell (hS.n 51 rfl) (hS.k 51 8 rfl) (by decide) rfl (Nat.le_of_ble_eq_true rfl) (by decide) (by decide) (by decide) (s_mX8_goesWell hS h) (fun r15 I14 J9 h => ?_)
                obtain ⟨rfl, h⟩ := h
                refine V_if_eq 122 dX8_join_103 rfl (fun hc => ?_) (fun hc => ?_)
                · replace h := h.1 hc
                  refine V_iconst (v := 0) dX8_join_122 (by decide) ?_
                  exact V_iret dX8_join_123 rfl (by decide) (by decide) ⟨_, rfl, rfl, rfl, h⟩
                · replace h := h.2 hc
                  refine V_aload_n dX8_join_106 rfl rfl ?_
                  refine V_iconst (v := 2) dX8_join_107 (by decide) ?_
                  refine V_iload_n dX8_join_108 rfl rfl ?_
                  refine V_iload_n dX8_join_109 rfl rfl ?_
                  refine V_iload_n dX8_join_110 rfl rfl ?_
                  refine V_iload dX8_join_111 rfl ?_
                  refine V_iload dX8_join_113 rfl ?_
                  refine V_iconst (v := 3) dX8_join_115 (by decide) ?_
                  refine V_callVi (st := []) [.int 2, .int a1, .int a2, .int a3, .int a4, .int a5, .int 3] dX8_join_116 ok_mX8_made rfl ml_RX8_136 in_mX8_made se_mX8_made (hS.n 51 rfl) (hS.k 51 8 rfl) (by decide) rfl (Nat.le_of_ble_eq_true rfl) (by decide) (by decide) (by decide) (s_mX8_made hS h) (fun r17 I16 J9 h => ?_)
                  obtain ⟨rfl, h⟩ := h
                  refine V_goto 123 dX8_join_119 rfl ?_
                  exact V_iret dX8_join_123 rfl (by decide) (by decide) ⟨_, rfl, rfl, rfl, h⟩
            · replace h := h.2 hc
              refine V_iconst (v := 2) dX8_join_86 (by decide) ?_
              refine V_goto 100 dX8_join_87 rfl ?_
              refine V_callVi (st := []) [.int 2] dX8_join_100 ok_mX8_goesWell rfl ml_RX8_112 in_mX8_goesWell se_mX8_goesWell (hS.n 51 rfl) (hS.k 51 8 rfl) (by decide) rfl (Nat.le_of_ble_eq_true rfl) (by decide) (by decide) (by decide) (s_mX8_goesWell hS h) (fun r19 I18 J9 h => ?_)
              obtain ⟨rfl, h⟩ := h
              refine V_if_eq 122 dX8_join_103 rfl (fun hc => ?_) (fun hc => ?_)
              · replace h := h.1 hc
                refine V_iconst (v := 0) dX8_join_122 (by decide) ?_
                exact V_iret dX8_join_123 rfl (by decide) (by decide) ⟨_, rfl, rfl, rfl, h⟩
              · replace h := h.2 hc
                refine V_aload_n dX8_join_106 rfl rfl ?_
                refine V_iconst (v := 2) dX8_join_107 (by decide) ?_
                refine V_iload_n dX8_join_108 rfl rfl ?_
                refine V_iload_n dX8_join_109 rfl rfl ?_
                refine V_iload_n dX8_join_110 rfl rfl ?_
                refine V_iload dX8_join_111 rfl ?_
                refine V_iload dX8_join_113 rfl ?_
                refine V_iconst (v := 3) dX8_join_115 (by decide) ?_
                refine V_callVi (st := []) [.int 2, .int a1, .int a2, .int a3, .int a4, .int a5, .int 3] dX8_join_116 ok_mX8_made rfl ml_RX8_136 in_mX8_made se_mX8_made (hS.n 51 rfl) (hS.k 51 8 rfl) (by decide) rfl (Nat.le_of_ble_eq_true rfl) (by decide) (by decide) (by decide) (s_mX8_made hS h) (fun r21 I20 J9 h => ?_)
                obtain ⟨rfl, h⟩ := h
                refine V_goto 123 dX8_join_119 rfl ?_
                exact V_iret dX8_join_123 rfl (by decide) (by decide) ⟨_, rfl, rfl, rfl, h⟩
          · first | exact absurd hc (by decide) | exact absurd (by decide) hc
        · replace h := h.2 hc
          refine V_aload_n dX8_join_46 rfl rfl ?_
          refine V_getr dX8_join_47 fl_RX8_37 (hS.n 51 rfl) (hS.k 51 8 rfl) rfl (hS.r 51 12 61 rfl) ?_
          refine V_iload_n dX8_join_50 rfl rfl ?_
          obtain ⟨hb, h⟩ := h
          refine V_iald dX8_join_51 (hS.n 61 rfl) (hS.k 61 9 rfl) (by rw [(hS.z 61 24 rfl)]; exact hb) ?_
          refine V_aload_n dX8_join_52 rfl rfl ?_
          refine V_getr dX8_join_53 fl_RX8_37 (hS.n 51 rfl) (hS.k 51 8 rfl) rfl (hS.r 51 12 61 rfl) ?_
          refine V_iload_n dX8_join_56 rfl rfl ?_
          obtain ⟨hb, h⟩ := h
          refine V_iald dX8_join_57 (hS.n 61 rfl) (hS.k 61 9 rfl) (by rw [(hS.z 61 24 rfl)]; exact hb) ?_
          refine V_iadd dX8_join_58 ?_
          refine V_bipush (v := 6) dX8_join_59 (by decide) ?_
          refine V_icmp_gt 68 dX8_join_61 rfl (fun hc => ?_) (fun hc => ?_)
          · replace h := h.1 hc
            refine V_iconst (v := 0) dX8_join_68 (by decide) ?_
            refine V_istore (lo2 := [(8, .int 0), (7, .int r13), (6, .int 1), (0, .ref 51), (1, .int a1), (2, .int a2), (3, .int a3), (4, .int a4), (5, .int a5)]) dX8_join_69 (by decide) rfl ?_
            refine V_aload_n dX8_join_71 rfl rfl ?_
            refine V_iload dX8_join_72 rfl ?_
            refine V_if_ne 81 dX8_join_74 rfl (fun hc => ?_) (fun hc => ?_)
            · refine V_iload dX8_join_81 rfl ?_
              refine V_if_ne 90 dX8_join_83 rfl (fun hc => ?_) (fun hc => ?_)
              · replace h := h.1 hc
                refine V_iload dX8_join_90 rfl ?_
                refine V_if_eq 99 dX8_join_92 rfl (fun hc => ?_) (fun hc => ?_)
                · refine V_iconst (v := 3) dX8_join_99 (by decide) ?_
                  refine V_callVi (st := []) [.int 3] dX8_join_100 ok_mX8_goesWell rfl ml_RX8_112 in_mX8_goesWell se_mX8_goesWell (hS.n 51 rfl) (hS.k 51 8 rfl) (by decide) rfl (Nat.le_of_ble_eq_true rfl) (by decide) (by decide) (by decide) (s_mX8_goesWell hS h) (fun r23 I22 J9 h => ?_)
                  obtain ⟨rfl, h⟩ := h
                  refine V_if_eq 122 dX8_join_103 rfl (fun hc => ?_) (fun hc => ?_)
                  · replace h := h.1 hc
                    refine V_iconst (v := 0) dX8_join_122 (by decide) ?_
                    exact V_iret dX8_join_123 rfl (by decide) (by decide) ⟨_, rfl, rfl, rfl, h⟩
                  · replace h := h.2 hc
                    refine V_aload_n dX8_join_106 rfl rfl ?_
                    refine V_iconst (v := 2) dX8_join_107 (by decide) ?_
                    refine V_iload_n dX8_join_108 rfl rfl ?_
                    refine V_iload_n dX8_join_109 rfl rfl ?_
                    refine V_iload_n dX8_join_110 rfl rfl ?_
                    refine V_iload dX8_join_111 rfl ?_
                    refine V_iload dX8_join_113 rfl ?_
                    refine V_iconst (v := 3) dX8_join_115 (by decide) ?_
                    refine V_callVi (st := []) [.int 2, .int a1, .int a2, .int a3, .int a4, .int a5, .int 3] dX8_join_116 ok_mX8_made rfl ml_RX8_136 in_mX8_made se_mX8_made (hS.n 51 rfl) (hS.k 51 8 rfl) (by decide) rfl (Nat.le_of_ble_eq_true rfl) (by decide) (by decide) (by decide) (s_mX8_made hS h) (fun r25 I24 J9 h => ?_)
                    obtain ⟨rfl, h⟩ := h
                    refine V_goto 123 dX8_join_119 rfl ?_
                    exact V_iret dX8_join_123 rfl (by decide) (by decide) ⟨_, rfl, rfl, rfl, h⟩
                · first | exact absurd hc (by decide) | exact absurd (by decide) hc
              · replace h := h.2 hc
                refine V_iconst (v := 2) dX8_join_86 (by decide) ?_
                refine V_goto 100 dX8_join_87 rfl ?_
                refine V_callVi (st := []) [.int 2] dX8_join_100 ok_mX8_goesWell rfl ml_RX8_112 in_mX8_goesWell se_mX8_goesWell (hS.n 51 rfl) (hS.k 51 8 rfl) (by decide) rfl (Nat.le_of_ble_eq_true rfl) (by decide) (by decide) (by decide) (s_mX8_goesWell hS h) (fun r27 I26 J9 h => ?_)
                obtain ⟨rfl, h⟩ := h
                refine V_if_eq 122 dX8_join_103 rfl (fun hc => ?_) (fun hc => ?_)
                · replace h := h.1 hc
                  refine V_iconst (v := 0) dX8_join_122 (by decide) ?_
                  exact V_iret dX8_join_123 rfl (by decide) (by decide) ⟨_, rfl, rfl, rfl, h⟩
                · replace h := h.2 hc
                  refine V_aload_n dX8_join_106 rfl rfl ?_
                  refine V_iconst (v := 2) dX8_join_107 (by decide) ?_
                  refine V_iload_n dX8_join_108 rfl rfl ?_
                  refine V_iload_n dX8_join_109 rfl rfl ?_
                  refine V_iload_n dX8_join_110 rfl rfl ?_
                  refine V_iload dX8_join_111 rfl ?_
                  refine V_iload dX8_join_113 rfl ?_
                  refine V_iconst (v := 3) dX8_join_115 (by decide) ?_
                  refine V_callVi (st := []) [.int 2, .int a1, .int a2, .int a3, .int a4, .int a5, .int 3] dX8_join_116 ok_mX8_made rfl ml_RX8_136 in_mX8_made se_mX8_made (hS.n 51 rfl) (hS.k 51 8 rfl) (by decide) rfl (Nat.le_of_ble_eq_true rfl) (by decide) (by decide) (by decide) (s_mX8_made hS h) (fun r29 I28 J9 h => ?_)
                  obtain ⟨rfl, h⟩ := h
                  refine V_goto 123 dX8_join_119 rfl ?_
                  exact V_iret dX8_join_123 rfl (by decide) (by decide) ⟨_, rfl, rfl, rfl, h⟩
            · first | exact absurd hc (by decide) | exact absurd (by decide) hc
          · replace h := h.2 hc
            refine V_iconst (v := 1) dX8_join_64 (by decide) ?_
            refine V_goto 69 dX8_join_65 rfl ?_
            refine V_istore (lo2 := [(8, .int 1), (7, .int r13), (6, .int 1), (0, .ref 51), (1, .int a1), (2, .int a2), (3, .int a3), (4, .int a4), (5, .int a5)]) dX8_join_69 (by decide) rfl ?_
            refine V_aload_n dX8_join_71 rfl rfl ?_
            refine V_iload dX8_join_72 rfl ?_
            refine V_if_ne 81 dX8_join_74 rfl (fun hc => ?_) (fun hc => ?_)
            · refine V_iload dX8_join_81 rfl ?_
              refine V_if_ne 90 dX8_join_83 rfl (fun hc => ?_) (fun hc => ?_)
              · replace h := h.1 hc
                refine V_iload dX8_join_90 rfl ?_
                refine V_if_eq 99 dX8_join_92 rfl (fun hc => ?_) (fun hc => ?_)
                · first | exact absurd hc (by decide) | exact absurd (by decide) hc
                · refine V_iconst (v := 0) dX8_join_95 (by decide) ?_
                  refine V_goto 100 dX8_join_96 rfl ?_
                  refine V_callVi (st := []) [.int 0] dX8_join_100 ok_mX8_goesWell rfl ml_RX8_112 in_mX8_goesWell se_mX8_goesWell (hS.n 51 rfl) (hS.k 51 8 rfl) (by decide) rfl (Nat.le_of_ble_eq_true rfl) (by decide) (by decide) (by decide) (s_mX8_goesWell hS h) (fun r31 I30 J9 h => ?_)
                  obtain ⟨rfl, h⟩ := h
                  refine V_if_eq 122 dX8_join_103 rfl (fun hc => ?_) (fun hc => ?_)
                  · replace h := h.1 hc
                    refine V_iconst (v := 0) dX8_join_122 (by decide) ?_
                    exact V_iret dX8_join_123 rfl (by decide) (by decide) ⟨_, rfl, rfl, rfl, h⟩
                  · replace h := h.2 hc
                    refine V_aload_n dX8_join_106 rfl rfl ?_
                    refine V_iconst (v := 2) dX8_join_107 (by decide) ?_
                    refine V_iload_n dX8_join_108 rfl rfl ?_
                    refine V_iload_n dX8_join_109 rfl rfl ?_
                    refine V_iload_n dX8_join_110 rfl rfl ?_
                    refine V_iload dX8_join_111 rfl ?_
                    refine V_iload dX8_join_113 rfl ?_
                    refine V_iconst (v := 3) dX8_join_115 (by decide) ?_
                    refine V_callVi (st := []) [.int 2, .int a1, .int a2, .int a3, .int a4, .int a5, .int 3] dX8_join_116 ok_mX8_made rfl ml_RX8_136 in_mX8_made se_mX8_made (hS.n 51 rfl) (hS.k 51 8 rfl) (by decide) rfl (Nat.le_of_ble_eq_true rfl) (by decide) (by decide) (by decide) (s_mX8_made hS h) (fun r33 I32 J9 h => ?_)
                    obtain ⟨rfl, h⟩ := h
                    refine V_goto 123 dX8_join_119 rfl ?_
                    exact V_iret dX8_join_123 rfl (by decide) (by decide) ⟨_, rfl, rfl, rfl, h⟩
              · replace h := h.2 hc
                refine V_iconst (v := 2) dX8_join_86 (by decide) ?_
                refine V_goto 100 dX8_join_87 rfl ?_
                refine V_callVi (st := []) [.int 2] dX8_join_100 ok_mX8_goesWell rfl ml_RX8_112 in_mX8_goesWell se_mX8_goesWell (hS.n 51 rfl) (hS.k 51 8 rfl) (by decide) rfl (Nat.le_of_ble_eq_true rfl) (by decide) (by decide) (by decide) (s_mX8_goesWell hS h) (fun r35 I34 J9 h => ?_)
                obtain ⟨rfl, h⟩ := h
                refine V_if_eq 122 dX8_join_103 rfl (fun hc => ?_) (fun hc => ?_)
                · replace h := h.1 hc
                  refine V_iconst (v := 0) dX8_join_122 (by decide) ?_
                  exact V_iret dX8_join_123 rfl (by decide) (by decide) ⟨_, rfl, rfl, rfl, h⟩
                · replace h := h.2 hc
                  refine V_aload_n dX8_join_106 rfl rfl ?_
                  refine V_iconst (v := 2) dX8_join_107 (by decide) ?_
                  refine V_iload_n dX8_join_108 rfl rfl ?_
                  refine V_iload_n dX8_join_109 rfl rfl ?_
                  refine V_iload_n dX8_join_110 rfl rfl ?_
                  refine V_iload dX8_join_111 rfl ?_
                  refine V_iload dX8_join_113 rfl ?_
                  refine V_iconst (v := 3) dX8_join_115 (by decide) ?_
                  refine V_callVi (st := []) [.int 2, .int a1, .int a2, .int a3, .int a4, .int a5, .int 3] dX8_join_116 ok_mX8_made rfl ml_RX8_136 in_mX8_made se_mX8_made (hS.n 51 rfl) (hS.k 51 8 rfl) (by decide) rfl (Nat.le_of_ble_eq_true rfl) (by decide) (by decide) (by decide) (s_mX8_made hS h) (fun r37 I36 J9 h => ?_)
                  obtain ⟨rfl, h⟩ := h
                  refine V_goto 123 dX8_join_119 rfl ?_
                  exact V_iret dX8_join_123 rfl (by decide) (by decide) ⟨_, rfl, rfl, rfl, h⟩
            · first | exact absurd hc (by decide) | exact absurd (by decide) hc
def wX8_group (a1 : Int32) (a2 : Int32) (a3 : Int32) (a4 : Int32) (I : QI) (post : Int32 → QI → Prop) : Prop := (wX8_isNodeColumn a1 a2 I (fun r1 => ((r1 = 0 → (wX8_in a3 0 4 I (fun r2 => ((r2 = 0 → (wX8_goesWell 1 I (fun r4 I3 => ((r4 = 0 → post 0 I3) ∧ (¬ r4 = 0 → (wX8_made 3 a1 (-1) a2 a3 a4 3 I3 (fun r6 I5 => post r6 I5))))))) ∧ (¬ r2 = 0 → ((¬ a3 = 0 → (wX8_goesWell 1 I (fun r8 I7 => ((r8 = 0 → post 0 I7) ∧ (¬ r8 = 0 → (wX8_made 3 a1 (-1) a2 a3 a4 3 I7 (fun r10 I9 => post r10 I9))))))) ∧ (a3 = 0 → ((¬ a4 = 0 → (wX8_goesWell 1 I (fun r12 I11 => ((r12 = 0 → post 0 I11) ∧ (¬ r12 = 0 → (wX8_made 3 a1 (-1) a2 a3 a4 3 I11 (fun r14 I13 => post r14 I13))))))) ∧ (a4 = 0 → (wX8_goesWell 1 I (fun r16 I15 => ((r16 = 0 → post 0 I15) ∧ (¬ r16 = 0 → (wX8_made 3 a1 (-1) a2 a3 a4 3 I15 (fun r18 I17 => post r18 I17))))))))))))))) ∧ (¬ r1 = 0 → ((a3 = 0 → (wX8_in a3 0 4 I (fun r19 => ((r19 = 0 → (wX8_goesWell 2 I (fun r21 I20 => ((r21 = 0 → post 0 I20) ∧ (¬ r21 = 0 → (wX8_made 3 a1 (-1) a2 a3 a4 3 I20 (fun r23 I22 => post r23 I22))))))) ∧ (¬ r19 = 0 → ((¬ a3 = 0 → (wX8_goesWell 0 I (fun r25 I24 => ((r25 = 0 → post 0 I24) ∧ (¬ r25 = 0 → (wX8_made 3 a1 (-1) a2 a3 a4 3 I24 (fun r27 I26 => post r27 I26))))))) ∧ (a3 = 0 → ((¬ a4 = 0 → (wX8_goesWell 2 I (fun r29 I28 => ((r29 = 0 → post 0 I28) ∧ (¬ r29 = 0 → (wX8_made 3 a1 (-1) a2 a3 a4 3 I28 (fun r31 I30 => post r31 I30))))))) ∧ (a4 = 0 → (wX8_goesWell 0 I (fun r33 I32 => ((r33 = 0 → post 0 I32) ∧ (¬ r33 = 0 → (wX8_made 3 a1 (-1) a2 a3 a4 3 I32 (fun r35 I34 => post r35 I34))))))))))))))) ∧ (¬ a3 = 0 → (vp_in a1 24 ∧ (wX8_in a4 0 ((I 61 (a1).toNatClampNeg) - 1) I (fun r36 => ((r36 = 0 → (wX8_in a3 0 4 I (fun r37 => ((r37 = 0 → (wX8_goesWell 1 I (fun r39 I38 => ((r39 = 0 → post 0 I38) ∧ (¬ r39 = 0 → (wX8_made 3 a1 (-1) a2 a3 a4 3 I38 (fun r41 I40 => post r41 I40))))))) ∧ (¬ r37 = 0 → ((¬ a3 = 0 → (wX8_goesWell 1 I (fun r43 I42 => ((r43 = 0 → post 0 I42) ∧ (¬ r43 = 0 → (wX8_made 3 a1 (-1) a2 a3 a4 3 I42 (fun r45 I44 => post r45 I44))))))) ∧ (a3 = 0 → ((¬ a4 = 0 → (wX8_goesWell 1 I (fun r47 I46 => ((r47 = 0 → post 0 I46) ∧ (¬ r47 = 0 → (wX8_made 3 a1 (-1) a2 a3 a4 3 I46 (fun r49 I48 => post r49 I48))))))) ∧ (a4 = 0 → (wX8_goesWell 1 I (fun r51 I50 => ((r51 = 0 → post 0 I50) ∧ (¬ r51 = 0 → (wX8_made 3 a1 (-1) a2 a3 a4 3 I50 (fun r53 I52 => post r53 I52))))))))))))))) ∧ (¬ r36 = 0 → (wX8_in a3 0 4 I (fun r54 => ((r54 = 0 → (wX8_goesWell 2 I (fun r56 I55 => ((r56 = 0 → post 0 I55) ∧ (¬ r56 = 0 → (wX8_made 3 a1 (-1) a2 a3 a4 3 I55 (fun r58 I57 => post r58 I57))))))) ∧ (¬ r54 = 0 → ((¬ a3 = 0 → (wX8_goesWell 0 I (fun r60 I59 => ((r60 = 0 → post 0 I59) ∧ (¬ r60 = 0 → (wX8_made 3 a1 (-1) a2 a3 a4 3 I59 (fun r62 I61 => post r62 I61))))))) ∧ (a3 = 0 → ((¬ a4 = 0 → (wX8_goesWell 2 I (fun r64 I63 => ((r64 = 0 → post 0 I63) ∧ (¬ r64 = 0 → (wX8_made 3 a1 (-1) a2 a3 a4 3 I63 (fun r66 I65 => post r66 I65))))))) ∧ (a4 = 0 → (wX8_goesWell 0 I (fun r68 I67 => ((r68 = 0 → post 0 I67) ∧ (¬ r68 = 0 → (wX8_made 3 a1 (-1) a2 a3 a4 3 I67 (fun r70 I69 => post r70 I69)))))))))))))))))))))))))
set_option maxRecDepth 100000 in
set_option maxHeartbeats 4000000 in
theorem s_mX8_group {X : QX} {S : QS} {a1 : Int32} {a2 : Int32} {a3 : Int32} {a4 : Int32} {I : QI} {J : QJ} {post : Int32 → QI → Prop} (hS : Sh S) (h : wX8_group a1 a2 a3 a4 I post) : CX X mX8_group 3 0 0 [.ref 51, .int a1, .int a2, .int a3, .int a4] S I J (q_Pi S (fun r I2 J2 => J = J2 ∧ post r I2)) := by
  refine CX.of (lo := [(0, .ref 51), (1, .int a1), (2, .int a2), (3, .int a3), (4, .int a4)]) ok_mX8_group rfl (Nat.le_of_ble_eq_true rfl) rfl ?_
  replace h : (wX8_isNodeColumn a1 a2 I (fun r1 => ((r1 = 0 → (wX8_in a3 0 4 I (fun r2 => ((r2 = 0 → (wX8_goesWell 1 I (fun r4 I3 => ((r4 = 0 → post 0 I3) ∧ (¬ r4 = 0 → (wX8_made 3 a1 (-1) a2 a3 a4 3 I3 (fun r6 I5 => post r6 I5))))))) ∧ (¬ r2 = 0 → ((¬ a3 = 0 → (wX8_goesWell 1 I (fun r8 I7 => ((r8 = 0 → post 0 I7) ∧ (¬ r8 = 0 → (wX8_made 3 a1 (-1) a2 a3 a4 3 I7 (fun r10 I9 => post r10 I9))))))) ∧ (a3 = 0 → ((¬ a4 = 0 → (wX8_goesWell 1 I (fun r12 I11 => ((r12 = 0 → post 0 I11) ∧ (¬ r12 = 0 → (wX8_made 3 a1 (-1) a2 a3 a4 3 I11 (fun r14 I13 => post r14 I13))))))) ∧ (a4 = 0 → (wX8_goesWell 1 I (fun r16 I15 => ((r16 = 0 → post 0 I15) ∧ (¬ r16 = 0 → (wX8_made 3 a1 (-1) a2 a3 a4 3 I15 (fun r18 I17 => post r18 I17))))))))))))))) ∧ (¬ r1 = 0 → ((a3 = 0 → (wX8_in a3 0 4 I (fun r19 => ((r19 = 0 → (wX8_goesWell 2 I (fun r21 I20 => ((r21 = 0 → post 0 I20) ∧ (¬ r21 = 0 → (wX8_made 3 a1 (-1) a2 a3 a4 3 I20 (fun r23 I22 => post r23 I22))))))) ∧ (¬ r19 = 0 → ((¬ a3 = 0 → (wX8_goesWell 0 I (fun r25 I24 => ((r25 = 0 → post 0 I24) ∧ (¬ r25 = 0 → (wX8_made 3 a1 (-1) a2 a3 a4 3 I24 (fun r27 I26 => post r27 I26))))))) ∧ (a3 = 0 → ((¬ a4 = 0 → (wX8_goesWell 2 I (fun r29 I28 => ((r29 = 0 → post 0 I28) ∧ (¬ r29 = 0 → (wX8_made 3 a1 (-1) a2 a3 a4 3 I28 (fun r31 I30 => post r31 I30))))))) ∧ (a4 = 0 → (wX8_goesWell 0 I (fun r33 I32 => ((r33 = 0 → post 0 I32) ∧ (¬ r33 = 0 → (wX8_made 3 a1 (-1) a2 a3 a4 3 I32 (fun r35 I34 => post r35 I34))))))))))))))) ∧ (¬ a3 = 0 → (vp_in a1 24 ∧ (wX8_in a4 0 ((I 61 (a1).toNatClampNeg) - 1) I (fun r36 => ((r36 = 0 → (wX8_in a3 0 4 I (fun r37 => ((r37 = 0 → (wX8_goesWell 1 I (fun r39 I38 => ((r39 = 0 → post 0 I38) ∧ (¬ r39 = 0 → (wX8_made 3 a1 (-1) a2 a3 a4 3 I38 (fun r41 I40 => post r41 I40))))))) ∧ (¬ r37 = 0 → ((¬ a3 = 0 → (wX8_goesWell 1 I (fun r43 I42 => ((r43 = 0 → post 0 I42) ∧ (¬ r43 = 0 → (wX8_made 3 a1 (-1) a2 a3 a4 3 I42 (fun r45 I44 => post r45 I44))))))) ∧ (a3 = 0 → ((¬ a4 = 0 → (wX8_goesWell 1 I (fun r47 I46 => ((r47 = 0 → post 0 I46) ∧ (¬ r47 = 0 → (wX8_made 3 a1 (-1) a2 a3 a4 3 I46 (fun r49 I48 => post r49 I48))))))) ∧ (a4 = 0 → (wX8_goesWell 1 I (fun r51 I50 => ((r51 = 0 → post 0 I50) ∧ (¬ r51 = 0 → (wX8_made 3 a1 (-1) a2 a3 a4 3 I50 (fun r53 I52 => post r53 I52))))))))))))))) ∧ (¬ r36 = 0 → (wX8_in a3 0 4 I (fun r54 => ((r54 = 0 → (wX8_goesWell 2 I (fun r56 I55 => ((r56 = 0 → post 0 I55) ∧ (¬ r56 = 0 → (wX8_made 3 a1 (-1) a2 a3 a4 3 I55 (fun r58 I57 => post r58 I57))))))) ∧ (¬ r54 = 0 → ((¬ a3 = 0 → (wX8_goesWell 0 I (fun r60 I59 => ((r60 = 0 → post 0 I59) ∧ (¬ r60 = 0 → (wX8_made 3 a1 (-1) a2 a3 a4 3 I59 (fun r62 I61 => post r62 I61))))))) ∧ (a3 = 0 → ((¬ a4 = 0 → (wX8_goesWell 2 I (fun r64 I63 => ((r64 = 0 → post 0 I63) ∧ (¬ r64 = 0 → (wX8_made 3 a1 (-1) a2 a3 a4 3 I63 (fun r66 I65 => post r66 I65))))))) ∧ (a4 = 0 → (wX8_goesWell 0 I (fun r68 I67 => ((r68 = 0 → post 0 I67) ∧ (¬ r68 = 0 → (wX8_made 3 a1 (-1) a2 a3 a4 3 I67 (fun r70 I69 => post r70 I69))))))))))))))))))))))))) := h
  refine V_aload_n dX8_group_0 rfl rfl ?_
  refine V_iload_n dX8_group_1 rfl rfl ?_
  refine V_iload_n dX8_group_2 rfl rfl ?_
  refine V_callVi (st := []) [.int a1, .int a2] dX8_group_3 ok_mX8_isNodeColumn rfl ml_RX8_140 in_mX8_isNodeColumn se_mX8_isNodeColumn (hS.n 51 rfl) (hS.k 51 8 rfl) (by decide) rfl (Nat.le_of_ble_eq_true rfl) (by decide) (by decide) (by decide) (s_mX8_isNodeColumn hS h) (fun r1 I9 J9 h => ?_)
  obtain ⟨rfl, rfl, h⟩ := h
  refine V_if_eq 34 dX8_group_6 rfl (fun hc => ?_) (fun hc => ?_)
  · replace h := h.1 hc
    refine V_iconst (v := 0) dX8_group_34 (by decide) ?_
    refine V_istore (lo2 := [(5, .int 0), (0, .ref 51), (1, .int a1), (2, .int a2), (3, .int a3), (4, .int a4)]) dX8_group_35 (by decide) rfl ?_
    refine V_iload_n dX8_group_37 rfl rfl ?_
    refine V_iconst (v := 0) dX8_group_38 (by decide) ?_
    refine V_iconst (v := 4) dX8_group_39 (by decide) ?_
    refine V_callSi (st := []) [.int a3, .int 0, .int 4] dX8_group_40 ok_mX8_in rfl ml_RX8_104 st_mX8_in (Nat.le_of_ble_eq_true rfl) (by decide) (by decide) (by decide) (s_mX8_in hS h) (fun r2 I9 J9 h => ?_)
    obtain ⟨rfl, rfl, h⟩ := h
    refine V_if_eq 59 dX8_group_43 rfl (fun hc => ?_) (fun hc => ?_)
    · replace h := h.1 hc
      refine V_iconst (v := 0) dX8_group_59 (by decide) ?_
      refine V_istore (lo2 := [(6, .int 0), (5, .int 0), (0, .ref 51), (1, .int a1), (2, .int a2), (3, .int a3), (4, .int a4)]) dX8_group_60 (by decide) rfl ?_
      refine V_aload_n dX8_group_62 rfl rfl ?_
      refine V_iload dX8_group_63 rfl ?_
      refine V_if_ne 72 dX8_group_65 rfl (fun hc => ?_) (fun hc => ?_)
      · first | exact absurd hc (by decide) | exact absurd (by decide) hc
      · refine V_iconst (v := 1) dX8_group_68 (by decide) ?_
        refine V_goto 82 dX8_group_69 rfl ?_
        refine V_callVi (st := []) [.int 1] dX8_group_82 ok_mX8_goesWell rfl ml_RX8_112 in_mX8_goesWell se_mX8_goesWell (hS.n 51 rfl) (hS.k 51 8 rfl) (by decide) rfl (Nat.le_of_ble_eq_true rfl) (by decide) (by decide) (by decide) (s_mX8_goesWell hS h) (fun r4 I3 J9 h => ?_)
        obtain ⟨rfl, h⟩ := h
        refine V_if_eq 103 dX8_group_85 rfl (fun hc => ?_) (fun hc => ?_)
        · replace h := h.1 hc
          refine V_iconst (v := 0) dX8_group_103 (by decide) ?_
          exact V_iret dX8_group_104 rfl (by decide) (by decide) ⟨_, rfl, rfl, rfl, h⟩
        · replace h := h.2 hc
          refine V_aload_n dX8_group_88 rfl rfl ?_
          refine V_iconst (v := 3) dX8_group_89 (by decide) ?_
          refine V_iload_n dX8_group_90 rfl rfl ?_
          refine V_iconst (v := (-1)) dX8_group_91 (by decide) ?_
          refine V_iload_n dX8_group_92 rfl rfl ?_
          refine V_iload_n dX8_group_93 rfl rfl ?_
          refine V_iload dX8_group_94 rfl ?_
          refine V_iconst (v := 3) dX8_group_96 (by decide) ?_
          refine V_callVi (st := []) [.int 3, .int a1, .int (-1), .int a2, .int a3, .int a4, .int 3] dX8_group_97 ok_mX8_made rfl ml_RX8_136 in_mX8_made se_mX8_made (hS.n 51 rfl) (hS.k 51 8 rfl) (by decide) rfl (Nat.le_of_ble_eq_true rfl) (by decide) (by decide) (by decide) (s_mX8_made hS h) (fun r6 I5 J9 h => ?_)
          obtain ⟨rfl, h⟩ := h
          refine V_goto 104 dX8_group_100 rfl ?_
          exact V_iret dX8_group_104 rfl (by decide) (by decide) ⟨_, rfl, rfl, rfl, h⟩
    · replace h := h.2 hc
      refine V_iload_n dX8_group_46 rfl rfl ?_
      refine V_if_ne 55 dX8_group_47 rfl (fun hc => ?_) (fun hc => ?_)
      · replace h := h.1 hc
        refine V_iconst (v := 1) dX8_group_55 (by decide) ?_
        refine V_goto 60 dX8_group_56 rfl ?_
        refine V_istore (lo2 := [(6, .int 1), (5, .int 0), (0, .ref 51), (1, .int a1), (2, .int a2), (3, .int a3), (4, .int a4)]) dX8_group_60 (by decide) rfl ?_
        refine V_aload_n dX8_group_62 rfl rfl ?_
        refine V_iload dX8_group_63 rfl ?_
        refine V_if_ne 72 dX8_group_65 rfl (fun hc => ?_) (fun hc => ?_)
        · first | exact absurd hc (by decide) | exact absurd (by decide) hc
        · refine V_iconst (v := 1) dX8_group_68 (by decide) ?_
          refine V_goto 82 dX8_group_69 rfl ?_
          refine V_callVi (st := []) [.int 1] dX8_group_82 ok_mX8_goesWell rfl ml_RX8_112 in_mX8_goesWell se_mX8_goesWell (hS.n 51 rfl) (hS.k 51 8 rfl) (by decide) rfl (Nat.le_of_ble_eq_true rfl) (by decide) (by decide) (by decide) (s_mX8_goesWell hS h) (fun r8 I7 J9 h => ?_)
          obtain ⟨rfl, h⟩ := h
          refine V_if_eq 103 dX8_group_85 rfl (fun hc => ?_) (fun hc => ?_)
          · replace h := h.1 hc
            refine V_iconst (v := 0) dX8_group_103 (by decide) ?_
            exact V_iret dX8_group_104 rfl (by decide) (by decide) ⟨_, rfl, rfl, rfl, h⟩
          · replace h := h.2 hc
            refine V_aload_n dX8_group_88 rfl rfl ?_
            refine V_iconst (v := 3) dX8_group_89 (by decide) ?_
            refine V_iload_n dX8_group_90 rfl rfl ?_
            refine V_iconst (v := (-1)) dX8_group_91 (by decide) ?_
            refine V_iload_n dX8_group_92 rfl rfl ?_
            refine V_iload_n dX8_group_93 rfl rfl ?_
            refine V_iload dX8_group_94 rfl ?_
            refine V_iconst (v := 3) dX8_group_96 (by decide) ?_
            refine V_callVi (st := []) [.int 3, .int a1, .int (-1), .int a2, .int a3, .int a4, .int 3] dX8_group_97 ok_mX8_made rfl ml_RX8_136 in_mX8_made se_mX8_made (hS.n 51 rfl) (hS.k 51 8 rfl) (by decide) rfl (Nat.le_of_ble_eq_true rfl) (by decide) (by decide) (by decide) (s_mX8_made hS h) (fun r10 I9 J9 h => ?_)
            obtain ⟨rfl, h⟩ := h
            refine V_goto 104 dX8_group_100 rfl ?_
            exact V_iret dX8_group_104 rfl (by decide) (by decide) ⟨_, rfl, rfl, rfl, h⟩
      · replace h := h.2 hc
        refine V_iload dX8_group_50 rfl ?_
        refine V_if_ne 59 dX8_group_52 rfl (fun hc => ?_) (fun hc => ?_)
        · replace h := h.1 hc
          refine V_iconst (v := 0) dX8_group_59 (by decide) ?_
          refine V_istore (lo2 := [(6, .int 0), (5, .int 0), (0, .ref 51), (1, .int a1), (2, .int a2), (3, .int a3), (4, .int a4)]) dX8_group_60 (by decide) rfl ?_
          refine V_aload_n dX8_group_62 rfl rfl ?_
          refine V_iload dX8_group_63 rfl ?_
          refine V_if_ne 72 dX8_group_65 rfl (fun hc => ?_) (fun hc => ?_)
          · first | exact absurd hc (by decide) | exact absurd (by decide) hc
          · refine V_iconst (v := 1) dX8_group_68 (by decide) ?_
            refine V_goto 82 dX8_group_69 rfl ?_
            refine V_callVi (st := []) [.int 1] dX8_group_82 ok_mX8_goesWell rfl ml_RX8_112 in_mX8_goesWell se_mX8_goesWell (hS.n 51 rfl) (hS.k 51 8 rfl) (by decide) rfl (Nat.le_of_ble_eq_true rfl) (by decide) (by decide) (by decide) (s_mX8_goesWell hS h) (fun r12 I11 J9 h => ?_)
            obtain ⟨rfl, h⟩ := h
            refine V_if_eq 103 dX8_group_85 rfl (fun hc => ?_) (fun hc => ?_)
            · replace h := h.1 hc
              refine V_iconst (v := 0) dX8_group_103 (by decide) ?_
              exact V_iret dX8_group_104 rfl (by decide) (by decide) ⟨_, rfl, rfl, rfl, h⟩
            · replace h := h.2 hc
              refine V_aload_n dX8_group_88 rfl rfl ?_
              refine V_iconst (v := 3) dX8_group_89 (by decide) ?_
              refine V_iload_n dX8_group_90 rfl rfl ?_
              refine V_iconst (v := (-1)) dX8_group_91 (by decide) ?_
              refine V_iload_n dX8_group_92 rfl rfl ?_
              refine V_iload_n dX8_group_93 rfl rfl ?_
              refine V_iload dX8_group_94 rfl ?_
              refine V_iconst (v := 3) dX8_group_96 (by decide) ?_
              refine V_callVi (st := []) [.int 3, .int a1, .int (-1), .int a2, .int a3, .int a4, .int 3] dX8_group_97 ok_mX8_made rfl ml_RX8_136 in_mX8_made se_mX8_made (hS.n 51 rfl) (hS.k 51 8 rfl) (by decide) rfl (Nat.le_of_ble_eq_true rfl) (by decide) (by decide) (by decide) (s_mX8_made hS h) (fun r14 I13 J9 h => ?_)
              obtain ⟨rfl, h⟩ := h
              refine V_goto 104 dX8_group_100 rfl ?_
              exact V_iret dX8_group_104 rfl (by decide) (by decide) ⟨_, rfl, rfl, rfl, h⟩
        · replace h := h.2 hc
          refine V_iconst (v := 1) dX8_group_55 (by decide) ?_
          refine V_goto 60 dX8_group_56 rfl ?_
          refine V_istore (lo2 := [(6, .int 1), (5, .int 0), (0, .ref 51), (1, .int a1), (2, .int a2), (3, .int a3), (4, .int a4)]) dX8_group_60 (by decide) rfl ?_
          refine V_aload_n dX8_group_62 rfl rfl ?_
          refine V_iload dX8_group_63 rfl ?_
          refine V_if_ne 72 dX8_group_65 rfl (fun hc => ?_) (fun hc => ?_)
          · first | exact absurd hc (by decide) | exact absurd (by decide) hc
          · refine V_iconst (v := 1) dX8_group_68 (by decide) ?_
            refine V_goto 82 dX8_group_69 rfl ?_
            refine V_callVi (st := []) [.int 1] dX8_group_82 ok_mX8_goesWell rfl ml_RX8_112 in_mX8_goesWell se_mX8_goesWell (hS.n 51 rfl) (hS.k 51 8 rfl) (by decide) rfl (Nat.le_of_ble_eq_true rfl) (by decide) (by decide) (by decide) (s_mX8_goesWell hS h) (fun r16 I15 J9 h => ?_)
            obtain ⟨rfl, h⟩ := h
            refine V_if_eq 103 dX8_group_85 rfl (fun hc => ?_) (fun hc => ?_)
            · replace h := h.1 hc
              refine V_iconst (v := 0) dX8_group_103 (by decide) ?_
              exact V_iret dX8_group_104 rfl (by decide) (by decide) ⟨_, rfl, rfl, rfl, h⟩
            · replace h := h.2 hc
              refine V_aload_n dX8_group_88 rfl rfl ?_
              refine V_iconst (v := 3) dX8_group_89 (by decide) ?_
              refine V_iload_n dX8_group_90 rfl rfl ?_
              refine V_iconst (v := (-1)) dX8_group_91 (by decide) ?_
              refine V_iload_n dX8_group_92 rfl rfl ?_
              refine V_iload_n dX8_group_93 rfl rfl ?_
              refine V_iload dX8_group_94 rfl ?_
              refine V_iconst (v := 3) dX8_group_96 (by decide) ?_
              refine V_callVi (st := []) [.int 3, .int a1, .int (-1), .int a2, .int a3, .int a4, .int 3] dX8_group_97 ok_mX8_made rfl ml_RX8_136 in_mX8_made se_mX8_made (hS.n 51 rfl) (hS.k 51 8 rfl) (by decide) rfl (Nat.le_of_ble_eq_true rfl) (by decide) (by decide) (by decide) (s_mX8_made hS h) (fun r18 I17 J9 h => ?_)
              obtain ⟨rfl, h⟩ := h
              refine V_goto 104 dX8_group_100 rfl ?_
              exact V_iret dX8_group_104 rfl (by decide) (by decide) ⟨_, rfl, rfl, rfl, h⟩
  · replace h := h.2 hc
    refine V_iload_n dX8_group_9 rfl rfl ?_
    refine V_if_eq 30 dX8_group_10 rfl (fun hc => ?_) (fun hc => ?_)
    · replace h := h.1 hc
      refine V_iconst (v := 1) dX8_group_30 (by decide) ?_
      refine V_goto 35 dX8_group_31 rfl ?_
      refine V_istore (lo2 := [(5, .int 1), (0, .ref 51), (1, .int a1), (2, .int a2), (3, .int a3), (4, .int a4)]) dX8_group_35 (by decide) rfl ?_
      refine V_iload_n dX8_group_37 rfl rfl ?_
      refine V_iconst (v := 0) dX8_group_38 (by decide) ?_
      refine V_iconst (v := 4) dX8_group_39 (by decide) ?_
      refine V_callSi (st := []) [.int a3, .int 0, .int 4] dX8_group_40 ok_mX8_in rfl ml_RX8_104 st_mX8_in (Nat.le_of_ble_eq_true rfl) (by decide) (by decide) (by decide) (s_mX8_in hS h) (fun r19 I9 J9 h => ?_)
      obtain ⟨rfl, rfl, h⟩ := h
      refine V_if_eq 59 dX8_group_43 rfl (fun hc => ?_) (fun hc => ?_)
      · replace h := h.1 hc
        refine V_iconst (v := 0) dX8_group_59 (by decide) ?_
        refine V_istore (lo2 := [(6, .int 0), (5, .int 1), (0, .ref 51), (1, .int a1), (2, .int a2), (3, .int a3), (4, .int a4)]) dX8_group_60 (by decide) rfl ?_
        refine V_aload_n dX8_group_62 rfl rfl ?_
        refine V_iload dX8_group_63 rfl ?_
        refine V_if_ne 72 dX8_group_65 rfl (fun hc => ?_) (fun hc => ?_)
        · refine V_iload dX8_group_72 rfl ?_
          refine V_if_ne 81 dX8_group_74 rfl (fun hc => ?_) (fun hc => ?_)
          · first | exact absurd hc (by decide) | exact absurd (by decide) hc
          · refine V_iconst (v := 2) dX8_group_77 (by decide) ?_
            refine V_goto 82 dX8_group_78 rfl ?_
            refine V_callVi (st := []) [.int 2] dX8_group_82 ok_mX8_goesWell rfl ml_RX8_112 in_mX8_goesWell se_mX8_goesWell (hS.n 51 rfl) (hS.k 51 8 rfl) (by decide) rfl (Nat.le_of_ble_eq_true rfl) (by decide) (by decide) (by decide) (s_mX8_goesWell hS h) (fun r21 I20 J9 h => ?_)
            obtain ⟨rfl, h⟩ := h
            refine V_if_eq 103 dX8_group_85 rfl (fun hc => ?_) (fun hc => ?_)
            · replace h := h.1 hc
              refine V_iconst (v := 0) dX8_group_103 (by decide) ?_
              exact V_iret dX8_group_104 rfl (by decide) (by decide) ⟨_, rfl, rfl, rfl, h⟩
            · replace h := h.2 hc
              refine V_aload_n dX8_group_88 rfl rfl ?_
              refine V_iconst (v := 3) dX8_group_89 (by decide) ?_
              refine V_iload_n dX8_group_90 rfl rfl ?_
              refine V_iconst (v := (-1)) dX8_group_91 (by decide) ?_
              refine V_iload_n dX8_group_92 rfl rfl ?_
              refine V_iload_n dX8_group_93 rfl rfl ?_
              refine V_iload dX8_group_94 rfl ?_
              refine V_iconst (v := 3) dX8_group_96 (by decide) ?_
              refine V_callVi (st := []) [.int 3, .int a1, .int (-1), .int a2, .int a3, .int a4, .int 3] dX8_group_97 ok_mX8_made rfl ml_RX8_136 in_mX8_made se_mX8_made (hS.n 51 rfl) (hS.k 51 8 rfl) (by decide) rfl (Nat.le_of_ble_eq_true rfl) (by decide) (by decide) (by decide) (s_mX8_made hS h) (fun r23 I22 J9 h => ?_)
              obtain ⟨rfl, h⟩ := h
              refine V_goto 104 dX8_group_100 rfl ?_
              exact V_iret dX8_group_104 rfl (by decide) (by decide) ⟨_, rfl, rfl, rfl, h⟩
        · first | exact absurd hc (by decide) | exact absurd (by decide) hc
      · replace h := h.2 hc
        refine V_iload_n dX8_group_46 rfl rfl ?_
        refine V_if_ne 55 dX8_group_47 rfl (fun hc => ?_) (fun hc => ?_)
        · replace h := h.1 hc
          refine V_iconst (v := 1) dX8_group_55 (by decide) ?_
          refine V_goto 60 dX8_group_56 rfl ?_
          refine V_istore (lo2 := [(6, .int 1), (5, .int 1), (0, .ref 51), (1, .int a1), (2, .int a2), (3, .int a3), (4, .int a4)]) dX8_group_60 (by decide) rfl ?_
          refine V_aload_n dX8_group_62 rfl rfl ?_
          refine V_iload dX8_group_63 rfl ?_
          refine V_if_ne 72 dX8_group_65 rfl (fun hc => ?_) (fun hc => ?_)
          · refine V_iload dX8_group_72 rfl ?_
            refine V_if_ne 81 dX8_group_74 rfl (fun hc => ?_) (fun hc => ?_)
            · refine V_iconst (v := 0) dX8_group_81 (by decide) ?_
              refine V_callVi (st := []) [.int 0] dX8_group_82 ok_mX8_goesWell rfl ml_RX8_112 in_mX8_goesWell se_mX8_goesWell (hS.n 51 rfl) (hS.k 51 8 rfl) (by decide) rfl (Nat.le_of_ble_eq_true rfl) (by decide) (by decide) (by decide) (s_mX8_goesWell hS h) (fun r25 I24 J9 h => ?_)
              obtain ⟨rfl, h⟩ := h
              refine V_if_eq 103 dX8_group_85 rfl (fun hc => ?_) (fun hc => ?_)
              · replace h := h.1 hc
                refine V_iconst (v := 0) dX8_group_103 (by decide) ?_
                exact V_iret dX8_group_104 rfl (by decide) (by decide) ⟨_, rfl, rfl, rfl, h⟩
              · replace h := h.2 hc
                refine V_aload_n dX8_group_88 rfl rfl ?_
                refine V_iconst (v := 3) dX8_group_89 (by decide) ?_
                refine V_iload_n dX8_group_90 rfl rfl ?_
                refine V_iconst (v := (-1)) dX8_group_91 (by decide) ?_
                refine V_iload_n dX8_group_92 rfl rfl ?_
                refine V_iload_n dX8_group_93 rfl rfl ?_
                refine V_iload dX8_group_94 rfl ?_
                refine V_iconst (v := 3) dX8_group_96 (by decide) ?_
                refine V_callVi (st := []) [.int 3, .int a1, .int (-1), .int a2, .int a3, .int a4, .int 3] dX8_group_97 ok_mX8_made rfl ml_RX8_136 in_mX8_made se_mX8_made (hS.n 51 rfl) (hS.k 51 8 rfl) (by decide) rfl (Nat.le_of_ble_eq_true rfl) (by decide) (by decide) (by decide) (s_mX8_made hS h) (fun r27 I26 J9 h => ?_)
                obtain ⟨rfl, h⟩ := h
                refine V_goto 104 dX8_group_100 rfl ?_
                exact V_iret dX8_group_104 rfl (by decide) (by decide) ⟨_, rfl, rfl, rfl, h⟩
            · first | exact absurd hc (by decide) | exact absurd (by decide) hc
          · first | exact absurd hc (by decide) | exact absurd (by decide) hc
        · replace h := h.2 hc
          refine V_iload dX8_group_50 rfl ?_
          refine V_if_ne 59 dX8_group_52 rfl (fun hc => ?_) (fun hc => ?_)
          · replace h := h.1 hc
            refine V_iconst (v := 0) dX8_group_59 (by decide) ?_
            refine V_istore (lo2 := [(6, .int 0), (5, .int 1), (0, .ref 51), (1, .int a1), (2, .int a2), (3, .int a3), (4, .int a4)]) dX8_group_60 (by decide) rfl ?_
            refine V_aload_n dX8_group_62 rfl rfl ?_
            refine V_iload dX8_group_63 rfl ?_
            refine V_if_ne 72 dX8_group_65 rfl (fun hc => ?_) (fun hc => ?_)
            · refine V_iload dX8_group_72 rfl ?_
              refine V_if_ne 81 dX8_group_74 rfl (fun hc => ?_) (fun hc => ?_)
              · first | exact absurd hc (by decide) | exact absurd (by decide) hc
              · refine V_iconst (v := 2) dX8_group_77 (by decide) ?_
                refine V_goto 82 dX8_group_78 rfl ?_
                refine V_callVi (st := []) [.int 2] dX8_group_82 ok_mX8_goesWell rfl ml_RX8_112 in_mX8_goesWell se_mX8_goesWell (hS.n 51 rfl) (hS.k 51 8 rfl) (by decide) rfl (Nat.le_of_ble_eq_true rfl) (by decide) (by decide) (by decide) (s_mX8_goesWell hS h) (fun r29 I28 J9 h => ?_)
                obtain ⟨rfl, h⟩ := h
                refine V_if_eq 103 dX8_group_85 rfl (fun hc => ?_) (fun hc => ?_)
                · replace h := h.1 hc
                  refine V_iconst (v := 0) dX8_group_103 (by decide) ?_
                  exact V_iret dX8_group_104 rfl (by decide) (by decide) ⟨_, rfl, rfl, rfl, h⟩
                · replace h := h.2 hc
                  refine V_aload_n dX8_group_88 rfl rfl ?_
                  refine V_iconst (v := 3) dX8_group_89 (by decide) ?_
                  refine V_iload_n dX8_group_90 rfl rfl ?_
                  refine V_iconst (v := (-1)) dX8_group_91 (by decide) ?_
                  refine V_iload_n dX8_group_92 rfl rfl ?_
                  refine V_iload_n dX8_group_93 rfl rfl ?_
                  refine V_iload dX8_group_94 rfl ?_
                  refine V_iconst (v := 3) dX8_group_96 (by decide) ?_
                  refine V_callVi (st := []) [.int 3, .int a1, .int (-1), .int a2, .int a3, .int a4, .int 3] dX8_group_97 ok_mX8_made rfl ml_RX8_136 in_mX8_made se_mX8_made (hS.n 51 rfl) (hS.k 51 8 rfl) (by decide) rfl (Nat.le_of_ble_eq_true rfl) (by decide) (by decide) (by decide) (s_mX8_made hS h) (fun r31 I30 J9 h => ?_)
                  obtain ⟨rfl, h⟩ := h
                  refine V_goto 104 dX8_group_100 rfl ?_
                  exact V_iret dX8_group_104 rfl (by decide) (by decide) ⟨_, rfl, rfl, rfl, h⟩
            · first | exact absurd hc (by decide) | exact absurd (by decide) hc
          · replace h := h.2 hc
            refine V_iconst (v := 1) dX8_group_55 (by decide) ?_
            refine V_goto 60 dX8_group_56 rfl ?_
            refine V_istore (lo2 := [(6, .int 1), (5, .int 1), (0, .ref 51), (1, .int a1), (2, .int a2), (3, .int a3), (4, .int a4)]) dX8_group_60 (by decide) rfl ?_
            refine V_aload_n dX8_group_62 rfl rfl ?_
            refine V_iload dX8_group_63 rfl ?_
            refine V_if_ne 72 dX8_group_65 rfl (fun hc => ?_) (fun hc => ?_)
            · refine V_iload dX8_group_72 rfl ?_
              refine V_if_ne 81 dX8_group_74 rfl (fun hc => ?_) (fun hc => ?_)
              · refine V_iconst (v := 0) dX8_group_81 (by decide) ?_
                refine V_callVi (st := []) [.int 0] dX8_group_82 ok_mX8_goesWell rfl ml_RX8_112 in_mX8_goesWell se_mX8_goesWell (hS.n 51 rfl) (hS.k 51 8 rfl) (by decide) rfl (Nat.le_of_ble_eq_true rfl) (by decide) (by decide) (by decide) (s_mX8_goesWell hS h) (fun r33 I32 J9 h => ?_)
                obtain ⟨rfl, h⟩ := h
                refine V_if_eq 103 dX8_group_85 rfl (fun hc => ?_) (fun hc => ?_)
                · replace h := h.1 hc
                  refine V_iconst (v := 0) dX8_group_103 (by decide) ?_
                  exact V_iret dX8_group_104 rfl (by decide) (by decide) ⟨_, rfl, rfl, rfl, h⟩
                · replace h := h.2 hc
                  refine V_aload_n dX8_group_88 rfl rfl ?_
                  refine V_iconst (v := 3) dX8_group_89 (by decide) ?_
                  refine V_iload_n dX8_group_90 rfl rfl ?_
                  refine V_iconst (v := (-1)) dX8_group_91 (by decide) ?_
                  refine V_iload_n dX8_group_92 rfl rfl ?_
                  refine V_iload_n dX8_group_93 rfl rfl ?_
                  refine V_iload dX8_group_94 rfl ?_
                  refine V_iconst (v := 3) dX8_group_96 (by decide) ?_
                  refine V_callVi (st := []) [.int 3, .int a1, .int (-1), .int a2, .int a3, .int a4, .int 3] dX8_group_97 ok_mX8_made rfl ml_RX8_136 in_mX8_made se_mX8_made (hS.n 51 rfl) (hS.k 51 8 rfl) (by decide) rfl (Nat.le_of_ble_eq_true rfl) (by decide) (by decide) (by decide) (s_mX8_made hS h) (fun r35 I34 J9 h => ?_)
                  obtain ⟨rfl, h⟩ := h
                  refine V_goto 104 dX8_group_100 rfl ?_
                  exact V_iret dX8_group_104 rfl (by decide) (by decide) ⟨_, rfl, rfl, rfl, h⟩
              · first | exact absurd hc (by decide) | exact absurd (by decide) hc
            · first | exact absurd hc (by decide) | exact absurd (by decide) hc
    · replace h := h.2 hc
      refine V_iload dX8_group_13 rfl ?_
      refine V_iconst (v := 0) dX8_group_15 (by decide) ?_
      refine V_aload_n dX8_group_16 rfl rfl ?_
      refine V_getr dX8_group_17 fl_RX8_37 (hS.n 51 rfl) (hS.k 51 8 rfl) rfl (hS.r 51 12 61 rfl) ?_
      refine V_iload_n dX8_group_20 rfl rfl ?_
      obtain ⟨hb, h⟩ := h
      refine V_iald dX8_group_21 (hS.n 61 rfl) (hS.k 61 9 rfl) (by rw [(hS.z 61 24 rfl)]; exact hb) ?_
      refine V_iconst (v := 1) dX8_group_22 (by decide) ?_
      refine V_isub dX8_group_23 ?_
      refine V_callSi (st := []) [.int a4, .int 0, .int ((I 61 (a1).toNatClampNeg) - 1)] dX8_group_24 ok_mX8_in rfl ml_RX8_104 st_mX8_in (Nat.le_of_ble_eq_true rfl) (by decide) (by decide) (by decide) (s_mX8_in hS h) (fun r36 I9 J9 h => ?_)
      obtain ⟨rfl, rfl, h⟩ := h
      refine V_if_eq 34 dX8_group_27 rfl (fun hc => ?_) (fun hc => ?_)
      · replace h := h.1 hc
        refine V_iconst (v := 0) dX8_group_34 (by decide) ?_
        refine V_istore (lo2 := [(5, .int 0), (0, .ref 51), (1, .int a1), (2, .int a2), (3, .int a3), (4, .int a4)]) dX8_group_35 (by decide) rfl ?_
        refine V_iload_n dX8_group_37 rfl rfl ?_
        refine V_iconst (v := 0) dX8_group_38 (by decide) ?_
        refine V_iconst (v := 4) dX8_group_39 (by decide) ?_
        refine V_callSi (st := []) [.int a3, .int 0, .int 4] dX8_group_40 ok_mX8_in rfl ml_RX8_104 st_mX8_in (Nat.le_of_ble_eq_true rfl) (by decide) (by decide) (by decide) (s_mX8_in hS h) (fun r37 I9 J9 h => ?_)
        obtain ⟨rfl, rfl, h⟩ := h
        refine V_if_eq 59 dX8_group_43 rfl (fun hc => ?_) (fun hc => ?_)
        · replace h := h.1 hc
          refine V_iconst (v := 0) dX8_group_59 (by decide) ?_
          refine V_istore (lo2 := [(6, .int 0), (5, .int 0), (0, .ref 51), (1, .int a1), (2, .int a2), (3, .int a3), (4, .int a4)]) dX8_group_60 (by decide) rfl ?_
          refine V_aload_n dX8_group_62 rfl rfl ?_
          refine V_iload dX8_group_63 rfl ?_
          refine V_if_ne 72 dX8_group_65 rfl (fun hc => ?_) (fun hc => ?_)
          · first | exact absurd hc (by decide) | exact absurd (by decide) hc
          · refine V_iconst (v := 1) dX8_group_68 (by decide) ?_
            refine V_goto 82 dX8_group_69 rfl ?_
            refine V_callVi (st := []) [.int 1] dX8_group_82 ok_mX8_goesWell rfl ml_RX8_112 in_mX8_goesWell se_mX8_goesWell (hS.n 51 rfl) (hS.k 51 8 rfl) (by decide) rfl (Nat.le_of_ble_eq_true rfl) (by decide) (by decide) (by decide) (s_mX8_goesWell hS h) (fun r39 I38 J9 h => ?_)
            obtain ⟨rfl, h⟩ := h
            refine V_if_eq 103 dX8_group_85 rfl (fun hc => ?_) (fun hc => ?_)
            · replace h := h.1 hc
              refine V_iconst (v := 0) dX8_group_103 (by decide) ?_
              exact V_iret dX8_group_104 rfl (by decide) (by decide) ⟨_, rfl, rfl, rfl, h⟩
            · replace h := h.2 hc
              refine V_aload_n dX8_group_88 rfl rfl ?_
              refine V_iconst (v := 3) dX8_group_89 (by decide) ?_
              refine V_iload_n dX8_group_90 rfl rfl ?_
              refine V_iconst (v := (-1)) dX8_group_91 (by decide) ?_
              refine V_iload_n dX8_group_92 rfl rfl ?_
              refine V_iload_n dX8_group_93 rfl rfl ?_
              refine V_iload dX8_group_94 rfl ?_
              refine V_iconst (v := 3) dX8_group_96 (by decide) ?_
              refine V_callVi (st := []) [.int 3, .int a1, .int (-1), .int a2, .int a3, .int a4, .int 3] dX8_group_97 ok_mX8_made rfl ml_RX8_136 in_mX8_made se_mX8_made (hS.n 51 rfl) (hS.k 51 8 rfl) (by decide) rfl (Nat.le_of_ble_eq_true rfl) (by decide) (by decide) (by decide) (s_mX8_made hS h) (fun r41 I40 J9 h => ?_)
              obtain ⟨rfl, h⟩ := h
              refine V_goto 104 dX8_group_100 rfl ?_
              exact V_iret dX8_group_104 rfl (by decide) (by decide) ⟨_, rfl, rfl, rfl, h⟩
        · replace h := h.2 hc
          refine V_iload_n dX8_group_46 rfl rfl ?_
          refine V_if_ne 55 dX8_group_47 rfl (fun hc => ?_) (fun hc => ?_)
          · replace h := h.1 hc
            refine V_iconst (v := 1) dX8_group_55 (by decide) ?_
            refine V_goto 60 dX8_group_56 rfl ?_
            refine V_istore (lo2 := [(6, .int 1), (5, .int 0), (0, .ref 51), (1, .int a1), (2, .int a2), (3, .int a3), (4, .int a4)]) dX8_group_60 (by decide) rfl ?_
            refine V_aload_n dX8_group_62 rfl rfl ?_
            refine V_iload dX8_group_63 rfl ?_
            refine V_if_ne 72 dX8_group_65 rfl (fun hc => ?_) (fun hc => ?_)
            · first | exact absurd hc (by decide) | exact absurd (by decide) hc
            · refine V_iconst (v := 1) dX8_group_68 (by decide) ?_
              refine V_goto 82 dX8_group_69 rfl ?_
              refine V_callVi (st := []) [.int 1] dX8_group_82 ok_mX8_goesWell rfl ml_RX8_112 in_mX8_goesWell se_mX8_goesWell (hS.n 51 rfl) (hS.k 51 8 rfl) (by decide) rfl (Nat.le_of_ble_eq_true rfl) (by decide) (by decide) (by decide) (s_mX8_goesWell hS h) (fun r43 I42 J9 h => ?_)
              obtain ⟨rfl, h⟩ := h
              refine V_if_eq 103 dX8_group_85 rfl (fun hc => ?_) (fun hc => ?_)
              · replace h := h.1 hc
                refine V_iconst (v := 0) dX8_group_103 (by decide) ?_
                exact V_iret dX8_group_104 rfl (by decide) (by decide) ⟨_, rfl, rfl, rfl, h⟩
              · replace h := h.2 hc
                refine V_aload_n dX8_group_88 rfl rfl ?_
                refine V_iconst (v := 3) dX8_group_89 (by decide) ?_
                refine V_iload_n dX8_group_90 rfl rfl ?_
                refine V_iconst (v := (-1)) dX8_group_91 (by decide) ?_
                refine V_iload_n dX8_group_92 rfl rfl ?_
                refine V_iload_n dX8_group_93 rfl rfl ?_
                refine V_iload dX8_group_94 rfl ?_
                refine V_iconst (v := 3) dX8_group_96 (by decide) ?_
                refine V_callVi (st := []) [.int 3, .int a1, .int (-1), .int a2, .int a3, .int a4, .int 3] dX8_group_97 ok_mX8_made rfl ml_RX8_136 in_mX8_made se_mX8_made (hS.n 51 rfl) (hS.k 51 8 rfl) (by decide) rfl (Nat.le_of_ble_eq_true rfl) (by decide) (by decide) (by decide) (s_mX8_made hS h) (fun r45 I44 J9 h => ?_)
                obtain ⟨rfl, h⟩ := h
                refine V_goto 104 dX8_group_100 rfl ?_
                exact V_iret dX8_group_104 rfl (by decide) (by decide) ⟨_, rfl, rfl, rfl, h⟩
          · replace h := h.2 hc
            refine V_iload dX8_group_50 rfl ?_
            refine V_if_ne 59 dX8_group_52 rfl (fun hc => ?_) (fun hc => ?_)
            · replace h := h.1 hc
              refine V_iconst (v := 0) dX8_group_59 (by decide) ?_
              refine V_istore (lo2 := [(6, .int 0), (5, .int 0), (0, .ref 51), (1, .int a1), (2, .int a2), (3, .int a3), (4, .int a4)]) dX8_group_60 (by decide) rfl ?_
              refine V_aload_n dX8_group_62 rfl rfl ?_
              refine V_iload dX8_group_63 rfl ?_
              refine V_if_ne 72 dX8_group_65 rfl (fun hc => ?_) (fun hc => ?_)
              · first | exact absurd hc (by decide) | exact absurd (by decide) hc
              · refine V_iconst (v := 1) dX8_group_68 (by decide) ?_
                refine V_goto 82 dX8_group_69 rfl ?_
                refine V_callVi (st := []) [.int 1] dX8_group_82 ok_mX8_goesWell rfl ml_RX8_112 in_mX8_goesWell se_mX8_goesWell (hS.n 51 rfl) (hS.k 51 8 rfl) (by decide) rfl (Nat.le_of_ble_eq_true rfl) (by decide) (by decide) (by decide) (s_mX8_goesWell hS h) (fun r47 I46 J9 h => ?_)
                obtain ⟨rfl, h⟩ := h
                refine V_if_eq 103 dX8_group_85 rfl (fun hc => ?_) (fun hc => ?_)
                · replace h := h.1 hc
                  refine V_iconst (v := 0) dX8_group_103 (by decide) ?_
                  exact V_iret dX8_group_104 rfl (by decide) (by decide) ⟨_, rfl, rfl, rfl, h⟩
                · replace h := h.2 hc
                  refine V_aload_n dX8_group_88 rfl rfl ?_
                  refine V_iconst (v := 3) dX8_group_89 (by decide) ?_
                  refine V_iload_n dX8_group_90 rfl rfl ?_
                  refine V_iconst (v := (-1)) dX8_group_91 (by decide) ?_
                  refine V_iload_n dX8_group_92 rfl rfl ?_
                  refine V_iload_n dX8_group_93 rfl rfl ?_
                  refine V_iload dX8_group_94 rfl ?_
                  refine V_iconst (v := 3) dX8_group_96 (by decide) ?_
                  refine V_callVi (st := []) [.int 3, .int a1, .int (-1), .int a2, .int a3, .int a4, .int 3] dX8_group_97 ok_mX8_made rfl ml_RX8_136 in_mX8_made se_mX8_made (hS.n 51 rfl) (hS.k 51 8 rfl) (by decide) rfl (Nat.le_of_ble_eq_true rfl) (by decide) (by decide) (by decide) (s_mX8_made hS h) (fun r49 I48 J9 h => ?_)
                  obtain ⟨rfl, h⟩ := h
                  refine V_goto 104 dX8_group_100 rfl ?_
                  exact V_iret dX8_group_104 rfl (by decide) (by decide) ⟨_, rfl, rfl, rfl, h⟩
            · replace h := h.2 hc
              refine V_iconst (v := 1) dX8_group_55 (by decide) ?_
              refine V_goto 60 dX8_group_56 rfl ?_
              refine V_istore (lo2 := [(6, .int 1), (5, .int 0), (0, .ref 51), (1, .int a1), (2, .int a2), (3, .int a3), (4, .int a4)]) dX8_group_60 (by decide) rfl ?_
              refine V_aload_n dX8_group_62 rfl rfl ?_
              refine V_iload dX8_group_63 rfl ?_
              refine V_if_ne 72 dX8_group_65 rfl (fun hc => ?_) (fun hc => ?_)
              · first | exact absurd hc (by decide) | exact absurd (by decide) hc
              · refine V_iconst (v := 1) dX8_group_68 (by decide) ?_
                refine V_goto 82 dX8_group_69 rfl ?_
                refine V_callVi (st := []) [.int 1] dX8_group_82 ok_mX8_goesWell rfl ml_RX8_112 in_mX8_goesWell se_mX8_goesWell (hS.n 51 rfl) (hS.k 51 8 rfl) (by decide) rfl (Nat.le_of_ble_eq_true rfl) (by decide) (by decide) (by decide) (s_mX8_goesWell hS h) (fun r51 I50 J9 h => ?_)
                obtain ⟨rfl, h⟩ := h
                refine V_if_eq 103 dX8_group_85 rfl (fun hc => ?_) (fun hc => ?_)
                · replace h := h.1 hc
                  refine V_iconst (v := 0) dX8_group_103 (by decide) ?_
                  exact V_iret dX8_group_104 rfl (by decide) (by decide) ⟨_, rfl, rfl, rfl, h⟩
                · replace h := h.2 hc
                  refine V_aload_n dX8_group_88 rfl rfl ?_
                  refine V_iconst (v := 3) dX8_group_89 (by decide) ?_
                  refine V_iload_n dX8_group_90 rfl rfl ?_
                  refine V_iconst (v := (-1)) dX8_group_91 (by decide) ?_
                  refine V_iload_n dX8_group_92 rfl rfl ?_
                  refine V_iload_n dX8_group_93 rfl rfl ?_
                  refine V_iload dX8_group_94 rfl ?_
                  refine V_iconst (v := 3) dX8_group_96 (by decide) ?_
                  refine V_callVi (st := []) [.int 3, .int a1, .int (-1), .int a2, .int a3, .int a4, .int 3] dX8_group_97 ok_mX8_made rfl ml_RX8_136 in_mX8_made se_mX8_made (hS.n 51 rfl) (hS.k 51 8 rfl) (by decide) rfl (Nat.le_of_ble_eq_true rfl) (by decide) (by decide) (by decide) (s_mX8_made hS h) (fun r53 I52 J9 h => ?_)
                  obtain ⟨rfl, h⟩ := h
                  refine V_goto 104 dX8_group_100 rfl ?_
                  exact V_iret dX8_group_104 rfl (by decide) (by decide) ⟨_, rfl, rfl, rfl, h⟩
      · replace h := h.2 hc
        refine V_iconst (v := 1) dX8_group_30 (by decide) ?_
        refine V_goto 35 dX8_group_31 rfl ?_
        refine V_istore (lo2 := [(5, .int 1), (0, .ref 51), (1, .int a1), (2, .int a2), (3, .int a3), (4, .int a4)]) dX8_group_35 (by decide) rfl ?_
        refine V_iload_n dX8_group_37 rfl rfl ?_
        refine V_iconst (v := 0) dX8_group_38 (by decide) ?_
        refine V_iconst (v := 4) dX8_group_39 (by decide) ?_
        refine V_callSi (st := []) [.int a3, .int 0, .int 4] dX8_group_40 ok_mX8_in rfl ml_RX8_104 st_mX8_in (Nat.le_of_ble_eq_true rfl) (by decide) (by decide) (by decide) (s_mX8_in hS h) (fun r54 I9 J9 h => ?_)
        obtain ⟨rfl, rfl, h⟩ := h
        refine V_if_eq 59 dX8_group_43 rfl (fun hc => ?_) (fun hc => ?_)
        · replace h := h.1 hc
          refine V_iconst (v := 0) dX8_group_59 (by decide) ?_
          refine V_istore (lo2 := [(6, .int 0), (5, .int 1), (0, .ref 51), (1, .int a1), (2, .int a2), (3, .int a3), (4, .int a4)]) dX8_group_60 (by decide) rfl ?_
          refine V_aload_n dX8_group_62 rfl rfl ?_
          refine V_iload dX8_group_63 rfl ?_
          refine V_if_ne 72 dX8_group_65 rfl (fun hc => ?_) (fun hc => ?_)
          · refine V_iload dX8_group_72 rfl ?_
            refine V_if_ne 81 dX8_group_74 rfl (fun hc => ?_) (fun hc => ?_)
            · first | exact absurd hc (by decide) | exact absurd (by decide) hc
            · refine V_iconst (v := 2) dX8_group_77 (by decide) ?_
              refine V_goto 82 dX8_group_78 rfl ?_
              refine V_callVi (st := []) [.int 2] dX8_group_82 ok_mX8_goesWell rfl ml_RX8_112 in_mX8_goesWell se_mX8_goesWell (hS.n 51 rfl) (hS.k 51 8 rfl) (by decide) rfl (Nat.le_of_ble_eq_true rfl) (by decide) (by decide) (by decide) (s_mX8_goesWell hS h) (fun r56 I55 J9 h => ?_)
              obtain ⟨rfl, h⟩ := h
              refine V_if_eq 103 dX8_group_85 rfl (fun hc => ?_) (fun hc => ?_)
              · replace h := h.1 hc
                refine V_iconst (v := 0) dX8_group_103 (by decide) ?_
                exact V_iret dX8_group_104 rfl (by decide) (by decide) ⟨_, rfl, rfl, rfl, h⟩
              · replace h := h.2 hc
                refine V_aload_n dX8_group_88 rfl rfl ?_
                refine V_iconst (v := 3) dX8_group_89 (by decide) ?_
                refine V_iload_n dX8_group_90 rfl rfl ?_
                refine V_iconst (v := (-1)) dX8_group_91 (by decide) ?_
                refine V_iload_n dX8_group_92 rfl rfl ?_
                refine V_iload_n dX8_group_93 rfl rfl ?_
                refine V_iload dX8_group_94 rfl ?_
                refine V_iconst (v := 3) dX8_group_96 (by decide) ?_
                refine V_callVi (st := []) [.int 3, .int a1, .int (-1), .int a2, .int a3, .int a4, .int 3] dX8_group_97 ok_mX8_made rfl ml_RX8_136 in_mX8_made se_mX8_made (hS.n 51 rfl) (hS.k 51 8 rfl) (by decide) rfl (Nat.le_of_ble_eq_true rfl) (by decide) (by decide) (by decide) (s_mX8_made hS h) (fun r58 I57 J9 h => ?_)
                obtain ⟨rfl, h⟩ := h
                refine V_goto 104 dX8_group_100 rfl ?_
                exact V_iret dX8_group_104 rfl (by decide) (by decide) ⟨_, rfl, rfl, rfl, h⟩
          · first | exact absurd hc (by decide) | exact absurd (by decide) hc
        · replace h := h.2 hc
          refine V_iload_n dX8_group_46 rfl rfl ?_
          refine V_if_ne 55 dX8_group_47 rfl (fun hc => ?_) (fun hc => ?_)
          · replace h := h.1 hc
            refine V_iconst (v := 1) dX8_group_55 (by decide) ?_
            refine V_goto 60 dX8_group_56 rfl ?_
            refine V_istore (lo2 := [(6, .int 1), (5, .int 1), (0, .ref 51), (1, .int a1), (2, .int a2), (3, .int a3), (4, .int a4)]) dX8_group_60 (by decide) rfl ?_
            refine V_aload_n dX8_group_62 rfl rfl ?_
            refine V_iload dX8_group_63 rfl ?_
            refine V_if_ne 72 dX8_group_65 rfl (fun hc => ?_) (fun hc => ?_)
            · refine V_iload dX8_group_72 rfl ?_
              refine V_if_ne 81 dX8_group_74 rfl (fun hc => ?_) (fun hc => ?_)
              · refine V_iconst (v := 0) dX8_group_81 (by decide) ?_
                refine V_callVi (st := []) [.int 0] dX8_group_82 ok_mX8_goesWell rfl ml_RX8_112 in_mX8_goesWell se_mX8_goesWell (hS.n 51 rfl) (hS.k 51 8 rfl) (by decide) rfl (Nat.le_of_ble_eq_true rfl) (by decide) (by decide) (by decide) (s_mX8_goesWell hS h) (fun r60 I59 J9 h => ?_)
                obtain ⟨rfl, h⟩ := h
                refine V_if_eq 103 dX8_group_85 rfl (fun hc => ?_) (fun hc => ?_)
                · replace h := h.1 hc
                  refine V_iconst (v := 0) dX8_group_103 (by decide) ?_
                  exact V_iret dX8_group_104 rfl (by decide) (by decide) ⟨_, rfl, rfl, rfl, h⟩
                · replace h := h.2 hc
                  refine V_aload_n dX8_group_88 rfl rfl ?_
                  refine V_iconst (v := 3) dX8_group_89 (by decide) ?_
                  refine V_iload_n dX8_group_90 rfl rfl ?_
                  refine V_iconst (v := (-1)) dX8_group_91 (by decide) ?_
                  refine V_iload_n dX8_group_92 rfl rfl ?_
                  refine V_iload_n dX8_group_93 rfl rfl ?_
                  refine V_iload dX8_group_94 rfl ?_
                  refine V_iconst (v := 3) dX8_group_96 (by decide) ?_
                  refine V_callVi (st := []) [.int 3, .int a1, .int (-1), .int a2, .int a3, .int a4, .int 3] dX8_group_97 ok_mX8_made rfl ml_RX8_136 in_mX8_made se_mX8_made (hS.n 51 rfl) (hS.k 51 8 rfl) (by decide) rfl (Nat.le_of_ble_eq_true rfl) (by decide) (by decide) (by decide) (s_mX8_made hS h) (fun r62 I61 J9 h => ?_)
                  obtain ⟨rfl, h⟩ := h
                  refine V_goto 104 dX8_group_100 rfl ?_
                  exact V_iret dX8_group_104 rfl (by decide) (by decide) ⟨_, rfl, rfl, rfl, h⟩
              · first | exact absurd hc (by decide) | exact absurd (by decide) hc
            · first | exact absurd hc (by decide) | exact absurd (by decide) hc
          · replace h := h.2 hc
            refine V_iload dX8_group_50 rfl ?_
            refine V_if_ne 59 dX8_group_52 rfl (fun hc => ?_) (fun hc => ?_)
            · replace h := h.1 hc
              refine V_iconst (v := 0) dX8_group_59 (by decide) ?_
              refine V_istore (lo2 := [(6, .int 0), (5, .int 1), (0, .ref 51), (1, .int a1), (2, .int a2), (3, .int a3), (4, .int a4)]) dX8_group_60 (by decide) rfl ?_
              refine V_aload_n dX8_group_62 rfl rfl ?_
              refine V_iload dX8_group_63 rfl ?_
              refine V_if_ne 72 dX8_group_65 rfl (fun hc => ?_) (fun hc => ?_)
              · refine V_iload dX8_group_72 rfl ?_
                refine V_if_ne 81 dX8_group_74 rfl (fun hc => ?_) (fun hc => ?_)
                · first | exact absurd hc (by decide) | exact absurd (by decide) hc
                · refine V_iconst (v := 2) dX8_group_77 (by decide) ?_
                  refine V_goto 82 dX8_group_78 rfl ?_
                  refine V_callVi (st := []) [.int 2] dX8_group_82 ok_mX8_goesWell rfl ml_RX8_112 in_mX8_goesWell se_mX8_goesWell (hS.n 51 rfl) (hS.k 51 8 rfl) (by decide) rfl (Nat.le_of_ble_eq_true rfl) (by decide) (by decide) (by decide) (s_mX8_goesWell hS h) (fun r64 I63 J9 h => ?_)
                  obtain ⟨rfl, h⟩ := h
                  refine V_if_eq 103 dX8_group_85 rfl (fun hc => ?_) (fun hc => ?_)
                  · replace h := h.1 hc
                    refine V_iconst (v := 0) dX8_group_103 (by decide) ?_
                    exact V_iret dX8_group_104 rfl (by decide) (by decide) ⟨_, rfl, rfl, rfl, h⟩
                  · replace h := h.2 hc
                    refine V_aload_n dX8_group_88 rfl rfl ?_
                    refine V_iconst (v := 3) dX8_group_89 (by decide) ?_
                    refine V_iload_n dX8_group_90 rfl rfl ?_
                    refine V_iconst (v := (-1)) dX8_group_91 (by decide) ?_
                    refine V_iload_n dX8_group_92 rfl rfl ?_
                    refine V_iload_n dX8_group_93 rfl rfl ?_
                    refine V_iload dX8_group_94 rfl ?_
                    refine V_iconst (v := 3) dX8_group_96 (by decide) ?_
                    refine V_callVi (st := []) [.int 3, .int a1, .int (-1), .int a2, .int a3, .int a4, .int 3] dX8_group_97 ok_mX8_made rfl ml_RX8_136 in_mX8_made se_mX8_made (hS.n 51 rfl) (hS.k 51 8 rfl) (by decide) rfl (Nat.le_of_ble_eq_true rfl) (by decide) (by decide) (by decide) (s_mX8_made hS h) (fun r66 I65 J9 h => ?_)
                    obtain ⟨rfl, h⟩ := h
                    refine V_goto 104 dX8_group_100 rfl ?_
                    exact V_iret dX8_group_104 rfl (by decide) (by decide) ⟨_, rfl, rfl, rfl, h⟩
              · first | exact absurd hc (by decide) | exact absurd (by decide) hc
            · replace h := h.2 hc
              refine V_iconst (v := 1) dX8_group_55 (by decide) ?_
              refine V_goto 60 dX8_group_56 rfl ?_
              refine V_istore (lo2 := [(6, .int 1), (5, .int 1), (0, .ref 51), (1, .int a1), (2, .int a2), (3, .int a3), (4, .int a4)]) dX8_group_60 (by decide) rfl ?_
              refine V_aload_n dX8_group_62 rfl rfl ?_
              refine V_iload dX8_group_63 rfl ?_
              refine V_if_ne 72 dX8_group_65 rfl (fun hc => ?_) (fun hc => ?_)
              · refine V_iload dX8_group_72 rfl ?_
                refine V_if_ne 81 dX8_group_74 rfl (fun hc => ?_) (fun hc => ?_)
                · refine V_iconst (v := 0) dX8_group_81 (by decide) ?_
                  refine V_callVi (st := []) [.int 0] dX8_group_82 ok_mX8_goesWell rfl ml_RX8_112 in_mX8_goesWell se_mX8_goesWell (hS.n 51 rfl) (hS.k 51 8 rfl) (by decide) rfl (Nat.le_of_ble_eq_true rfl) (by decide) (by decide) (by decide) (s_mX8_goesWell hS h) (fun r68 I67 J9 h => ?_)
                  obtain ⟨rfl, h⟩ := h
                  refine V_if_eq 103 dX8_group_85 rfl (fun hc => ?_) (fun hc => ?_)
                  · replace h := h.1 hc
                    refine V_iconst (v := 0) dX8_group_103 (by decide) ?_
                    exact V_iret dX8_group_104 rfl (by decide) (by decide) ⟨_, rfl, rfl, rfl, h⟩
                  · replace h := h.2 hc
                    refine V_aload_n dX8_group_88 rfl rfl ?_
                    refine V_iconst (v := 3) dX8_group_89 (by decide) ?_
                    refine V_iload_n dX8_group_90 rfl rfl ?_
                    refine V_iconst (v := (-1)) dX8_group_91 (by decide) ?_
                    refine V_iload_n dX8_group_92 rfl rfl ?_
                    refine V_iload_n dX8_group_93 rfl rfl ?_
                    refine V_iload dX8_group_94 rfl ?_
                    refine V_iconst (v := 3) dX8_group_96 (by decide) ?_
                    refine V_callVi (st := []) [.int 3, .int a1, .int (-1), .int a2, .int a3, .int a4, .int 3] dX8_group_97 ok_mX8_made rfl ml_RX8_136 in_mX8_made se_mX8_made (hS.n 51 rfl) (hS.k 51 8 rfl) (by decide) rfl (Nat.le_of_ble_eq_true rfl) (by decide) (by decide) (by decide) (s_mX8_made hS h) (fun r70 I69 J9 h => ?_)
                    obtain ⟨rfl, h⟩ := h
                    refine V_goto 104 dX8_group_100 rfl ?_
                    exact V_iret dX8_group_104 rfl (by decide) (by decide) ⟨_, rfl, rfl, rfl, h⟩
                · first | exact absurd hc (by decide) | exact absurd (by decide) hc
              · first | exact absurd hc (by decide) | exact absurd (by decide) hc
def wX8_bag (a1 : Int32) (a2 : Int32) (a3 : Int32) (I : QI) (post : Int32 → QI → Prop) : Prop := (wX8_isNode a1 I (fun r1 => ((r1 = 0 → (wX8_in a3 0 3 I (fun r2 => (wX8_goesWell 1 I (fun r4 I3 => ((r4 = 0 → post 0 I3) ∧ (¬ r4 = 0 → (wX8_made 4 a1 a2 a3 0 0 3 I3 (fun r6 I5 => post r6 I5))))))))) ∧ (¬ r1 = 0 → (wX8_isNode a2 I (fun r7 => ((r7 = 0 → (wX8_in a3 0 3 I (fun r8 => (wX8_goesWell 1 I (fun r10 I9 => ((r10 = 0 → post 0 I9) ∧ (¬ r10 = 0 → (wX8_made 4 a1 a2 a3 0 0 3 I9 (fun r12 I11 => post r12 I11))))))))) ∧ (¬ r7 = 0 → (wX8_in a3 0 3 I (fun r13 => ((¬ r13 = 0 → (vp_in a1 24 ∧ (vp_in a2 24 ∧ ((¬ (I 61 (a1).toNatClampNeg) = (I 61 (a2).toNatClampNeg) → (wX8_goesWell 3 I (fun r15 I14 => ((r15 = 0 → post 0 I14) ∧ (¬ r15 = 0 → (wX8_made 4 a1 a2 a3 0 0 3 I14 (fun r17 I16 => post r17 I16))))))) ∧ ((I 61 (a1).toNatClampNeg) = (I 61 (a2).toNatClampNeg) → (wX8_goesWell 0 I (fun r19 I18 => ((r19 = 0 → post 0 I18) ∧ (¬ r19 = 0 → (wX8_made 4 a1 a2 a3 0 0 3 I18 (fun r21 I20 => post r21 I20))))))))))) ∧ (r13 = 0 → (wX8_goesWell 2 I (fun r23 I22 => ((r23 = 0 → post 0 I22) ∧ (¬ r23 = 0 → (wX8_made 4 a1 a2 a3 0 0 3 I22 (fun r25 I24 => post r25 I24))))))))))))))))))
set_option maxRecDepth 100000 in
set_option maxHeartbeats 4000000 in
theorem s_mX8_bag {X : QX} {S : QS} {a1 : Int32} {a2 : Int32} {a3 : Int32} {I : QI} {J : QJ} {post : Int32 → QI → Prop} (hS : Sh S) (h : wX8_bag a1 a2 a3 I post) : CX X mX8_bag 3 0 0 [.ref 51, .int a1, .int a2, .int a3] S I J (q_Pi S (fun r I2 J2 => J = J2 ∧ post r I2)) := by
  refine CX.of (lo := [(0, .ref 51), (1, .int a1), (2, .int a2), (3, .int a3)]) ok_mX8_bag rfl (Nat.le_of_ble_eq_true rfl) rfl ?_
  replace h : (wX8_isNode a1 I (fun r1 => ((r1 = 0 → (wX8_in a3 0 3 I (fun r2 => (wX8_goesWell 1 I (fun r4 I3 => ((r4 = 0 → post 0 I3) ∧ (¬ r4 = 0 → (wX8_made 4 a1 a2 a3 0 0 3 I3 (fun r6 I5 => post r6 I5))))))))) ∧ (¬ r1 = 0 → (wX8_isNode a2 I (fun r7 => ((r7 = 0 → (wX8_in a3 0 3 I (fun r8 => (wX8_goesWell 1 I (fun r10 I9 => ((r10 = 0 → post 0 I9) ∧ (¬ r10 = 0 → (wX8_made 4 a1 a2 a3 0 0 3 I9 (fun r12 I11 => post r12 I11))))))))) ∧ (¬ r7 = 0 → (wX8_in a3 0 3 I (fun r13 => ((¬ r13 = 0 → (vp_in a1 24 ∧ (vp_in a2 24 ∧ ((¬ (I 61 (a1).toNatClampNeg) = (I 61 (a2).toNatClampNeg) → (wX8_goesWell 3 I (fun r15 I14 => ((r15 = 0 → post 0 I14) ∧ (¬ r15 = 0 → (wX8_made 4 a1 a2 a3 0 0 3 I14 (fun r17 I16 => post r17 I16))))))) ∧ ((I 61 (a1).toNatClampNeg) = (I 61 (a2).toNatClampNeg) → (wX8_goesWell 0 I (fun r19 I18 => ((r19 = 0 → post 0 I18) ∧ (¬ r19 = 0 → (wX8_made 4 a1 a2 a3 0 0 3 I18 (fun r21 I20 => post r21 I20))))))))))) ∧ (r13 = 0 → (wX8_goesWell 2 I (fun r23 I22 => ((r23 = 0 → post 0 I22) ∧ (¬ r23 = 0 → (wX8_made 4 a1 a2 a3 0 0 3 I22 (fun r25 I24 => post r25 I24)))))))))))))))))) := h
  refine V_aload_n dX8_bag_0 rfl rfl ?_
  refine V_iload_n dX8_bag_1 rfl rfl ?_
  refine V_callVi (st := []) [.int a1] dX8_bag_2 ok_mX8_isNode rfl ml_RX8_121 in_mX8_isNode se_mX8_isNode (hS.n 51 rfl) (hS.k 51 8 rfl) (by decide) rfl (Nat.le_of_ble_eq_true rfl) (by decide) (by decide) (by decide) (s_mX8_isNode hS h) (fun r1 I9 J9 h => ?_)
  obtain ⟨rfl, rfl, h⟩ := h
  refine V_if_eq 20 dX8_bag_5 rfl (fun hc => ?_) (fun hc => ?_)
  · replace h := h.1 hc
    refine V_iconst (v := 0) dX8_bag_20 (by decide) ?_
    refine V_istore (lo2 := [(4, .int 0), (0, .ref 51), (1, .int a1), (2, .int a2), (3, .int a3)]) dX8_bag_21 (by decide) rfl ?_
    refine V_iload_n dX8_bag_23 rfl rfl ?_
    refine V_iconst (v := 0) dX8_bag_24 (by decide) ?_
    refine V_iconst (v := 3) dX8_bag_25 (by decide) ?_
    refine V_callSi (st := []) [.int a3, .int 0, .int 3] dX8_bag_26 ok_mX8_in rfl ml_RX8_104 st_mX8_in (Nat.le_of_ble_eq_true rfl) (by decide) (by decide) (by decide) (s_mX8_in hS h) (fun r2 I9 J9 h => ?_)
    obtain ⟨rfl, rfl, h⟩ := h
    refine V_istore (lo2 := [(5, .int r2), (4, .int 0), (0, .ref 51), (1, .int a1), (2, .int a2), (3, .int a3)]) dX8_bag_29 (by decide) rfl ?_
    refine V_aload_n dX8_bag_31 rfl rfl ?_
    refine V_iload dX8_bag_32 rfl ?_
    refine V_if_ne 41 dX8_bag_34 rfl (fun hc => ?_) (fun hc => ?_)
    · first | exact absurd hc (by decide) | exact absurd (by decide) hc
    · refine V_iconst (v := 1) dX8_bag_37 (by decide) ?_
      refine V_goto 70 dX8_bag_38 rfl ?_
      refine V_callVi (st := []) [.int 1] dX8_bag_70 ok_mX8_goesWell rfl ml_RX8_112 in_mX8_goesWell se_mX8_goesWell (hS.n 51 rfl) (hS.k 51 8 rfl) (by decide) rfl (Nat.le_of_ble_eq_true rfl) (by decide) (by decide) (by decide) (s_mX8_goesWell hS h) (fun r4 I3 J9 h => ?_)
      obtain ⟨rfl, h⟩ := h
      refine V_if_eq 90 dX8_bag_73 rfl (fun hc => ?_) (fun hc => ?_)
      · replace h := h.1 hc
        refine V_iconst (v := 0) dX8_bag_90 (by decide) ?_
        exact V_iret dX8_bag_91 rfl (by decide) (by decide) ⟨_, rfl, rfl, rfl, h⟩
      · replace h := h.2 hc
        refine V_aload_n dX8_bag_76 rfl rfl ?_
        refine V_iconst (v := 4) dX8_bag_77 (by decide) ?_
        refine V_iload_n dX8_bag_78 rfl rfl ?_
        refine V_iload_n dX8_bag_79 rfl rfl ?_
        refine V_iload_n dX8_bag_80 rfl rfl ?_
        refine V_iconst (v := 0) dX8_bag_81 (by decide) ?_
        refine V_iconst (v := 0) dX8_bag_82 (by decide) ?_
        refine V_iconst (v := 3) dX8_bag_83 (by decide) ?_
        refine V_callVi (st := []) [.int 4, .int a1, .int a2, .int a3, .int 0, .int 0, .int 3] dX8_bag_84 ok_mX8_made rfl ml_RX8_136 in_mX8_made se_mX8_made (hS.n 51 rfl) (hS.k 51 8 rfl) (by decide) rfl (Nat.le_of_ble_eq_true rfl) (by decide) (by decide) (by decide) (s_mX8_made hS h) (fun r6 I5 J9 h => ?_)
        obtain ⟨rfl, h⟩ := h
        refine V_goto 91 dX8_bag_87 rfl ?_
        exact V_iret dX8_bag_91 rfl (by decide) (by decide) ⟨_, rfl, rfl, rfl, h⟩
  · replace h := h.2 hc
    refine V_aload_n dX8_bag_8 rfl rfl ?_
    refine V_iload_n dX8_bag_9 rfl rfl ?_
    refine V_callVi (st := []) [.int a2] dX8_bag_10 ok_mX8_isNode rfl ml_RX8_121 in_mX8_isNode se_mX8_isNode (hS.n 51 rfl) (hS.k 51 8 rfl) (by decide) rfl (Nat.le_of_ble_eq_true rfl) (by decide) (by decide) (by decide) (s_mX8_isNode hS h) (fun r7 I9 J9 h => ?_)
    obtain ⟨rfl, rfl, h⟩ := h
    refine V_if_eq 20 dX8_bag_13 rfl (fun hc => ?_) (fun hc => ?_)
    · replace h := h.1 hc
      refine V_iconst (v := 0) dX8_bag_20 (by decide) ?_
      refine V_istore (lo2 := [(4, .int 0), (0, .ref 51), (1, .int a1), (2, .int a2), (3, .int a3)]) dX8_bag_21 (by decide) rfl ?_
      refine V_iload_n dX8_bag_23 rfl rfl ?_
      refine V_iconst (v := 0) dX8_bag_24 (by decide) ?_
      refine V_iconst (v := 3) dX8_bag_25 (by decide) ?_
      refine V_callSi (st := []) [.int a3, .int 0, .int 3] dX8_bag_26 ok_mX8_in rfl ml_RX8_104 st_mX8_in (Nat.le_of_ble_eq_true rfl) (by decide) (by decide) (by decide) (s_mX8_in hS h) (fun r8 I9 J9 h => ?_)
      obtain ⟨rfl, rfl, h⟩ := h
      refine V_istore (lo2 := [(5, .int r8), (4, .int 0), (0, .ref 51), (1, .int a1), (2, .int a2), (3, .int a3)]) dX8_bag_29 (by decide) rfl ?_
      refine V_aload_n dX8_bag_31 rfl rfl ?_
      refine V_iload dX8_bag_32 rfl ?_
      refine V_if_ne 41 dX8_bag_34 rfl (fun hc => ?_) (fun hc => ?_)
      · first | exact absurd hc (by decide) | exact absurd (by decide) hc
      · refine V_iconst (v := 1) dX8_bag_37 (by decide) ?_
        refine V_goto 70 dX8_bag_38 rfl ?_
        refine V_callVi (st := []) [.int 1] dX8_bag_70 ok_mX8_goesWell rfl ml_RX8_112 in_mX8_goesWell se_mX8_goesWell (hS.n 51 rfl) (hS.k 51 8 rfl) (by decide) rfl (Nat.le_of_ble_eq_true rfl) (by decide) (by decide) (by decide) (s_mX8_goesWell hS h) (fun r10 I9 J9 h => ?_)
        obtain ⟨rfl, h⟩ := h
        refine V_if_eq 90 dX8_bag_73 rfl (fun hc => ?_) (fun hc => ?_)
        · replace h := h.1 hc
          refine V_iconst (v := 0) dX8_bag_90 (by decide) ?_
          exact V_iret dX8_bag_91 rfl (by decide) (by decide) ⟨_, rfl, rfl, rfl, h⟩
        · replace h := h.2 hc
          refine V_aload_n dX8_bag_76 rfl rfl ?_
          refine V_iconst (v := 4) dX8_bag_77 (by decide) ?_
          refine V_iload_n dX8_bag_78 rfl rfl ?_
          refine V_iload_n dX8_bag_79 rfl rfl ?_
          refine V_iload_n dX8_bag_80 rfl rfl ?_
          refine V_iconst (v := 0) dX8_bag_81 (by decide) ?_
          refine V_iconst (v := 0) dX8_bag_82 (by decide) ?_
          refine V_iconst (v := 3) dX8_bag_83 (by decide) ?_
          refine V_callVi (st := []) [.int 4, .int a1, .int a2, .int a3, .int 0, .int 0, .int 3] dX8_bag_84 ok_mX8_made rfl ml_RX8_136 in_mX8_made se_mX8_made (hS.n 51 rfl) (hS.k 51 8 rfl) (by decide) rfl (Nat.le_of_ble_eq_true rfl) (by decide) (by decide) (by decide) (s_mX8_made hS h) (fun r12 I11 J9 h => ?_)
          obtain ⟨rfl, h⟩ := h
          refine V_goto 91 dX8_bag_87 rfl ?_
          exact V_iret dX8_bag_91 rfl (by decide) (by decide) ⟨_, rfl, rfl, rfl, h⟩
    · replace h := h.2 hc
      refine V_iconst (v := 1) dX8_bag_16 (by decide) ?_
      refine V_goto 21 dX8_bag_17 rfl ?_
      refine V_istore (lo2 := [(4, .int 1), (0, .ref 51), (1, .int a1), (2, .int a2), (3, .int a3)]) dX8_bag_21 (by decide) rfl ?_
      refine V_iload_n dX8_bag_23 rfl rfl ?_
      refine V_iconst (v := 0) dX8_bag_24 (by decide) ?_
      refine V_iconst (v := 3) dX8_bag_25 (by decide) ?_
      refine V_callSi (st := []) [.int a3, .int 0, .int 3] dX8_bag_26 ok_mX8_in rfl ml_RX8_104 st_mX8_in (Nat.le_of_ble_eq_true rfl) (by decide) (by decide) (by decide) (s_mX8_in hS h) (fun r13 I9 J9 h => ?_)
      obtain ⟨rfl, rfl, h⟩ := h
      refine V_istore (lo2 := [(5, .int r13), (4, .int 1), (0, .ref 51), (1, .int a1), (2, .int a2), (3, .int a3)]) dX8_bag_29 (by decide) rfl ?_
      refine V_aload_n dX8_bag_31 rfl rfl ?_
      refine V_iload dX8_bag_32 rfl ?_
      refine V_if_ne 41 dX8_bag_34 rfl (fun hc => ?_) (fun hc => ?_)
      · refine V_iload dX8_bag_41 rfl ?_
        refine V_if_ne 50 dX8_bag_43 rfl (fun hc => ?_) (fun hc => ?_)
        · replace h := h.1 hc
          refine V_aload_n dX8_bag_50 rfl rfl ?_
          refine V_getr dX8_bag_51 fl_RX8_37 (hS.n 51 rfl) (hS.k 51 8 rfl) rfl (hS.r 51 12 61 rfl) ?_
          refine V_iload_n dX8_bag_54 rfl rfl ?_
          obtain ⟨hb, h⟩ := h
          refine V_iald dX8_bag_55 (hS.n 61 rfl) (hS.k 61 9 rfl) (by rw [(hS.z 61 24 rfl)]; exact hb) ?_
          refine V_aload_n dX8_bag_56 rfl rfl ?_
          refine V_getr dX8_bag_57 fl_RX8_37 (hS.n 51 rfl) (hS.k 51 8 rfl) rfl (hS.r 51 12 61 rfl) ?_
          refine V_iload_n dX8_bag_60 rfl rfl ?_
          obtain ⟨hb, h⟩ := h
          refine V_iald dX8_bag_61 (hS.n 61 rfl) (hS.k 61 9 rfl) (by rw [(hS.z 61 24 rfl)]; exact hb) ?_
          refine V_icmp_ne 69 dX8_bag_62 rfl (fun hc => ?_) (fun hc => ?_)
          · replace h := h.1 hc
            refine V_iconst (v := 3) dX8_bag_69 (by decide) ?_
            refine V_callVi (st := []) [.int 3] dX8_bag_70 ok_mX8_goesWell rfl ml_RX8_112 in_mX8_goesWell se_mX8_goesWell (hS.n 51 rfl) (hS.k 51 8 rfl) (by decide) rfl (Nat.le_of_ble_eq_true rfl) (by decide) (by decide) (by decide) (s_mX8_goesWell hS h) (fun r15 I14 J9 h => ?_)
            obtain ⟨rfl, h⟩ := h
            refine V_if_eq 90 dX8_bag_73 rfl (fun hc => ?_) (fun hc => ?_)
            · replace h := h.1 hc
              refine V_iconst (v := 0) dX8_bag_90 (by decide) ?_
              exact V_iret dX8_bag_91 rfl (by decide) (by decide) ⟨_, rfl, rfl, rfl, h⟩
            · replace h := h.2 hc
              refine V_aload_n dX8_bag_76 rfl rfl ?_
              refine V_iconst (v := 4) dX8_bag_77 (by decide) ?_
              refine V_iload_n dX8_bag_78 rfl rfl ?_
              refine V_iload_n dX8_bag_79 rfl rfl ?_
              refine V_iload_n dX8_bag_80 rfl rfl ?_
              refine V_iconst (v := 0) dX8_bag_81 (by decide) ?_
              refine V_iconst (v := 0) dX8_bag_82 (by decide) ?_
              refine V_iconst (v := 3) dX8_bag_83 (by decide) ?_
              refine V_callVi (st := []) [.int 4, .int a1, .int a2, .int a3, .int 0, .int 0, .int 3] dX8_bag_84 ok_mX8_made rfl ml_RX8_136 in_mX8_made se_mX8_made (hS.n 51 rfl) (hS.k 51 8 rfl) (by decide) rfl (Nat.le_of_ble_eq_true rfl) (by decide) (by decide) (by decide) (s_mX8_made hS h) (fun r17 I16 J9 h => ?_)
              obtain ⟨rfl, h⟩ := h
              refine V_goto 91 dX8_bag_87 rfl ?_
              exact V_iret dX8_bag_91 rfl (by decide) (by decide) ⟨_, rfl, rfl, rfl, h⟩
          · replace h := h.2 hc
            refine V_iconst (v := 0) dX8_bag_65 (by decide) ?_
            refine V_goto 70 dX8_bag_66 rfl ?_
            refine V_callVi (st := []) [.int 0] dX8_bag_70 ok_mX8_goesWell rfl ml_RX8_112 in_mX8_goesWell se_mX8_goesWell (hS.n 51 rfl) (hS.k 51 8 rfl) (by decide) rfl (Nat.le_of_ble_eq_true rfl) (by decide) (by decide) (by decide) (s_mX8_goesWell hS h) (fun r19 I18 J9 h => ?_)
            obtain ⟨rfl, h⟩ := h
            refine V_if_eq 90 dX8_bag_73 rfl (fun hc => ?_) (fun hc => ?_)
            · replace h := h.1 hc
              refine V_iconst (v := 0) dX8_bag_90 (by decide) ?_
              exact V_iret dX8_bag_91 rfl (by decide) (by decide) ⟨_, rfl, rfl, rfl, h⟩
            · replace h := h.2 hc
              refine V_aload_n dX8_bag_76 rfl rfl ?_
              refine V_iconst (v := 4) dX8_bag_77 (by decide) ?_
              refine V_iload_n dX8_bag_78 rfl rfl ?_
              refine V_iload_n dX8_bag_79 rfl rfl ?_
              refine V_iload_n dX8_bag_80 rfl rfl ?_
              refine V_iconst (v := 0) dX8_bag_81 (by decide) ?_
              refine V_iconst (v := 0) dX8_bag_82 (by decide) ?_
              refine V_iconst (v := 3) dX8_bag_83 (by decide) ?_
              refine V_callVi (st := []) [.int 4, .int a1, .int a2, .int a3, .int 0, .int 0, .int 3] dX8_bag_84 ok_mX8_made rfl ml_RX8_136 in_mX8_made se_mX8_made (hS.n 51 rfl) (hS.k 51 8 rfl) (by decide) rfl (Nat.le_of_ble_eq_true rfl) (by decide) (by decide) (by decide) (s_mX8_made hS h) (fun r21 I20 J9 h => ?_)
              obtain ⟨rfl, h⟩ := h
              refine V_goto 91 dX8_bag_87 rfl ?_
              exact V_iret dX8_bag_91 rfl (by decide) (by decide) ⟨_, rfl, rfl, rfl, h⟩
        · replace h := h.2 hc
          refine V_iconst (v := 2) dX8_bag_46 (by decide) ?_
          refine V_goto 70 dX8_bag_47 rfl ?_
          refine V_callVi (st := []) [.int 2] dX8_bag_70 ok_mX8_goesWell rfl ml_RX8_112 in_mX8_goesWell se_mX8_goesWell (hS.n 51 rfl) (hS.k 51 8 rfl) (by decide) rfl (Nat.le_of_ble_eq_true rfl) (by decide) (by decide) (by decide) (s_mX8_goesWell hS h) (fun r23 I22 J9 h => ?_)
          obtain ⟨rfl, h⟩ := h
          refine V_if_eq 90 dX8_bag_73 rfl (fun hc => ?_) (fun hc => ?_)
          · replace h := h.1 hc
            refine V_iconst (v := 0) dX8_bag_90 (by decide) ?_
            exact V_iret dX8_bag_91 rfl (by decide) (by decide) ⟨_, rfl, rfl, rfl, h⟩
          · replace h := h.2 hc
            refine V_aload_n dX8_bag_76 rfl rfl ?_
            refine V_iconst (v := 4) dX8_bag_77 (by decide) ?_
            refine V_iload_n dX8_bag_78 rfl rfl ?_
            refine V_iload_n dX8_bag_79 rfl rfl ?_
            refine V_iload_n dX8_bag_80 rfl rfl ?_
            refine V_iconst (v := 0) dX8_bag_81 (by decide) ?_
            refine V_iconst (v := 0) dX8_bag_82 (by decide) ?_
            refine V_iconst (v := 3) dX8_bag_83 (by decide) ?_
            refine V_callVi (st := []) [.int 4, .int a1, .int a2, .int a3, .int 0, .int 0, .int 3] dX8_bag_84 ok_mX8_made rfl ml_RX8_136 in_mX8_made se_mX8_made (hS.n 51 rfl) (hS.k 51 8 rfl) (by decide) rfl (Nat.le_of_ble_eq_true rfl) (by decide) (by decide) (by decide) (s_mX8_made hS h) (fun r25 I24 J9 h => ?_)
            obtain ⟨rfl, h⟩ := h
            refine V_goto 91 dX8_bag_87 rfl ?_
            exact V_iret dX8_bag_91 rfl (by decide) (by decide) ⟨_, rfl, rfl, rfl, h⟩
      · first | exact absurd hc (by decide) | exact absurd (by decide) hc
def wX8_cellOf (a1 : Int32) (a2 : Int32) (a3 : Int32) (I : QI) (post : Int32 → Prop) : Prop := (vp_in ((((200 * a1) + a2) * 6) + a3) 28800 ∧ post (I 66 (((((200 * a1) + a2) * 6) + a3)).toNatClampNeg))
set_option maxRecDepth 100000 in
set_option maxHeartbeats 4000000 in
theorem s_mX8_cellOf {X : QX} {S : QS} {a1 : Int32} {a2 : Int32} {a3 : Int32} {I : QI} {J : QJ} {post : Int32 → Prop} (hS : Sh S) (h : wX8_cellOf a1 a2 a3 I post) : CX X mX8_cellOf 0 0 0 [.ref 51, .int a1, .int a2, .int a3] S I J (q_Pi S (fun r I2 J2 => I = I2 ∧ J = J2 ∧ post r)) := by
  refine CX.of (lo := [(0, .ref 51), (1, .int a1), (2, .int a2), (3, .int a3)]) ok_mX8_cellOf rfl (Nat.le_of_ble_eq_true rfl) rfl ?_
  replace h : (vp_in ((((200 * a1) + a2) * 6) + a3) 28800 ∧ post (I 66 (((((200 * a1) + a2) * 6) + a3)).toNatClampNeg)) := h
  refine V_aload_n dX8_cellOf_0 rfl rfl ?_
  refine V_getr dX8_cellOf_1 fl_RX8_58 (hS.n 51 rfl) (hS.k 51 8 rfl) rfl (hS.r 51 20 66 rfl) ?_
  refine V_sipush (v := 200) dX8_cellOf_4 (by decide) ?_
  refine V_iload_n dX8_cellOf_7 rfl rfl ?_
  refine V_imul dX8_cellOf_8 ?_
  refine V_iload_n dX8_cellOf_9 rfl rfl ?_
  refine V_iadd dX8_cellOf_10 ?_
  refine V_bipush (v := 6) dX8_cellOf_11 (by decide) ?_
  refine V_imul dX8_cellOf_13 ?_
  refine V_iload_n dX8_cellOf_14 rfl rfl ?_
  refine V_iadd dX8_cellOf_15 ?_
  obtain ⟨hb, h⟩ := h
  refine V_iald dX8_cellOf_16 (hS.n 66 rfl) (hS.k 66 9 rfl) (by rw [(hS.z 66 28800 rfl)]; exact hb) ?_
  exact V_iret dX8_cellOf_17 rfl (by decide) (by decide) ⟨_, rfl, rfl, rfl, rfl, h⟩
def wX8_put (a1 : Int32) (a2 : Int32) (a3 : Int32) (I : QI) (post : QI → Prop) : Prop := (vp_in a1 24 ∧ ((200 ≤ (I 64 (a1).toNatClampNeg) → post I) ∧ (¬ 200 ≤ (I 64 (a1).toNatClampNeg) → (vp_in a1 24 ∧ (vp_in ((((200 * a1) + (I 64 (a1).toNatClampNeg)) * 6) + a2) 28800 ∧ (∀ I1 : QI, I1 = q_u2 I 66 (((((200 * a1) + (I 64 (a1).toNatClampNeg)) * 6) + a2)).toNatClampNeg a3 → post I1))))))
set_option maxRecDepth 100000 in
set_option maxHeartbeats 4000000 in
theorem s_mX8_put {X : QX} {S : QS} {a1 : Int32} {a2 : Int32} {a3 : Int32} {I : QI} {J : QJ} {post : QI → Prop} (hS : Sh S) (h : wX8_put a1 a2 a3 I post) : CX X mX8_put 0 0 0 [.ref 51, .int a1, .int a2, .int a3] S I J (q_Pv S (fun I2 J2 => J = J2 ∧ post I2)) := by
  refine CX.of (lo := [(0, .ref 51), (1, .int a1), (2, .int a2), (3, .int a3)]) ok_mX8_put rfl (Nat.le_of_ble_eq_true rfl) rfl ?_
  replace h : (vp_in a1 24 ∧ ((200 ≤ (I 64 (a1).toNatClampNeg) → post I) ∧ (¬ 200 ≤ (I 64 (a1).toNatClampNeg) → (vp_in a1 24 ∧ (vp_in ((((200 * a1) + (I 64 (a1).toNatClampNeg)) * 6) + a2) 28800 ∧ (∀ I1 : QI, I1 = q_u2 I 66 (((((200 * a1) + (I 64 (a1).toNatClampNeg)) * 6) + a2)).toNatClampNeg a3 → post I1)))))) := h
  refine V_aload_n dX8_put_0 rfl rfl ?_
  refine V_getr dX8_put_1 fl_RX8_51 (hS.n 51 rfl) (hS.k 51 8 rfl) rfl (hS.r 51 18 64 rfl) ?_
  refine V_iload_n dX8_put_4 rfl rfl ?_
  obtain ⟨hb, h⟩ := h
  refine V_iald dX8_put_5 (hS.n 64 rfl) (hS.k 64 9 rfl) (by rw [(hS.z 64 24 rfl)]; exact hb) ?_
  refine V_sipush (v := 200) dX8_put_6 (by decide) ?_
  refine V_icmp_ge 35 dX8_put_9 rfl (fun hc => ?_) (fun hc => ?_)
  · replace h := h.1 hc
    exact V_vret dX8_put_35 rfl (by decide) (by decide) ⟨rfl, rfl, rfl, h⟩
  · replace h := h.2 hc
    refine V_aload_n dX8_put_12 rfl rfl ?_
    refine V_getr dX8_put_13 fl_RX8_58 (hS.n 51 rfl) (hS.k 51 8 rfl) rfl (hS.r 51 20 66 rfl) ?_
    refine V_sipush (v := 200) dX8_put_16 (by decide) ?_
    refine V_iload_n dX8_put_19 rfl rfl ?_
    refine V_imul dX8_put_20 ?_
    refine V_aload_n dX8_put_21 rfl rfl ?_
    refine V_getr dX8_put_22 fl_RX8_51 (hS.n 51 rfl) (hS.k 51 8 rfl) rfl (hS.r 51 18 64 rfl) ?_
    refine V_iload_n dX8_put_25 rfl rfl ?_
    obtain ⟨hb, h⟩ := h
    refine V_iald dX8_put_26 (hS.n 64 rfl) (hS.k 64 9 rfl) (by rw [(hS.z 64 24 rfl)]; exact hb) ?_
    refine V_iadd dX8_put_27 ?_
    refine V_bipush (v := 6) dX8_put_28 (by decide) ?_
    refine V_imul dX8_put_30 ?_
    refine V_iload_n dX8_put_31 rfl rfl ?_
    refine V_iadd dX8_put_32 ?_
    refine V_iload_n dX8_put_33 rfl rfl ?_
    obtain ⟨hb, h⟩ := h
    refine V_iast dX8_put_34 (hS.n 66 rfl) (hS.k 66 9 rfl) (by rw [(hS.z 66 28800 rfl)]; exact hb) ?_
    refine V_memI (fun I1 e_I1 => ?_)
    replace h := h I1 e_I1
    exact V_vret dX8_put_35 rfl (by decide) (by decide) ⟨rfl, rfl, rfl, h⟩
def wX8_copyRow_3 (a1 : Int32) (a2 : Int32) (a3 : Int32) (a4 : Int32) (post : QI → Prop) : Nat → Int32 → QI → Prop
  | 0, _, _ => False
  | n + 1, x5, I => (vp_in a2 24 ∧ (((I 61 (a2).toNatClampNeg) ≤ x5 → post I) ∧ (¬ (I 61 (a2).toNatClampNeg) ≤ x5 → (wX8_cellOf a2 a3 x5 I (fun r1 => (wX8_put a1 (a4 + x5) r1 I (fun I2 => (∀ v3 : Int32, v3 = (x5 + 1) → (wX8_copyRow_3 a1 a2 a3 a4 post n v3 I2)))))))))
set_option maxRecDepth 100000 in
set_option maxHeartbeats 4000000 in
theorem swX8_copyRow_3 {X : QX} {S : QS} {a1 : Int32} {a2 : Int32} {a3 : Int32} {a4 : Int32} {J : QJ} {post : QI → Prop} (hS : Sh S) : ∀ (f : Nat) (x5 : Int32) (I : QI), wX8_copyRow_3 a1 a2 a3 a4 post f x5 I → V X mX8_copyRow 1 0 0 (q_Pv S (fun I2 J2 => J = J2 ∧ post I2)) 3 [(0, .ref 51), (1, .int a1), (2, .int a2), (3, .int a3), (4, .int a4), (5, .int x5)] [] S I J 0 0 := by
  intro f
  induction f with
  | zero => intro x5 I h; exact h.elim
  | succ n ih =>
    intro x5 I h
    replace h : (vp_in a2 24 ∧ (((I 61 (a2).toNatClampNeg) ≤ x5 → post I) ∧ (¬ (I 61 (a2).toNatClampNeg) ≤ x5 → (wX8_cellOf a2 a3 x5 I (fun r1 => (wX8_put a1 (a4 + x5) r1 I (fun I2 => (∀ v3 : Int32, v3 = (x5 + 1) → (wX8_copyRow_3 a1 a2 a3 a4 post n v3 I2))))))))) := h
    refine V_iload dX8_copyRow_3 rfl ?_
    refine V_aload_n dX8_copyRow_5 rfl rfl ?_
    refine V_getr dX8_copyRow_6 fl_RX8_37 (hS.n 51 rfl) (hS.k 51 8 rfl) rfl (hS.r 51 12 61 rfl) ?_
    refine V_iload_n dX8_copyRow_9 rfl rfl ?_
    obtain ⟨hb, h⟩ := h
    refine V_iald dX8_copyRow_10 (hS.n 61 rfl) (hS.k 61 9 rfl) (by rw [(hS.z 61 24 rfl)]; exact hb) ?_
    refine V_icmp_ge 38 dX8_copyRow_11 rfl (fun hc => ?_) (fun hc => ?_)
    · replace h := h.1 hc
      exact V_vret dX8_copyRow_38 rfl (by decide) (by decide) ⟨rfl, rfl, rfl, h⟩
    · replace h := h.2 hc
      refine V_aload_n dX8_copyRow_14 rfl rfl ?_
      refine V_iload_n dX8_copyRow_15 rfl rfl ?_
      refine V_iload dX8_copyRow_16 rfl ?_
      refine V_iload dX8_copyRow_18 rfl ?_
      refine V_iadd dX8_copyRow_20 ?_
      refine V_aload_n dX8_copyRow_21 rfl rfl ?_
      refine V_iload_n dX8_copyRow_22 rfl rfl ?_
      refine V_iload_n dX8_copyRow_23 rfl rfl ?_
      refine V_iload dX8_copyRow_24 rfl ?_
      refine V_callVi (st := [.int (a4 + x5), .int a1, .ref 51]) [.int a2, .int a3, .int x5] dX8_copyRow_26 ok_mX8_cellOf rfl ml_RX8_144 in_mX8_cellOf se_mX8_cellOf (hS.n 51 rfl) (hS.k 51 8 rfl) (by decide) rfl (Nat.le_of_ble_eq_true rfl) (by decide) (by decide) (by decide) (s_mX8_cellOf hS h) (fun r1 I9 J9 h => ?_)
      obtain ⟨rfl, rfl, h⟩ := h
      refine V_callVv (st := []) [.int a1, .int (a4 + x5), .int r1] dX8_copyRow_29 ok_mX8_put rfl ml_RX8_148 in_mX8_put se_mX8_put (hS.n 51 rfl) (hS.k 51 8 rfl) (by decide) rfl (Nat.le_of_ble_eq_true rfl) (by decide) (by decide) (by decide) (s_mX8_put hS h) (fun I2 J9 h => ?_)
      obtain ⟨rfl, h⟩ := h
      obtain ⟨v3, e_v3⟩ : ∃ z : Int32, z = (x5 + 1) := ⟨_, rfl⟩
      replace h := h v3 e_v3
      refine V_iinc (lo2 := [(5, .int v3), (0, .ref 51), (1, .int a1), (2, .int a2), (3, .int a3), (4, .int a4)]) 5 dX8_copyRow_32 rfl (v := v3) (by rw [e_v3]; first | done | rfl) (by decide) rfl ?_
      refine V_goto 3 dX8_copyRow_35 rfl ?_
      refine V_sub (lo2 := [(0, .ref 51), (1, .int a1), (2, .int a2), (3, .int a3), (4, .int a4), (5, .int v3)]) [1, 2, 3, 4, 5, 0] rfl ?_
      exact ih _ _ h
def wX8_copyRow (a1 : Int32) (a2 : Int32) (a3 : Int32) (a4 : Int32) (I : QI) (post : QI → Prop) : Prop := (∃ f : Nat, wX8_copyRow_3 a1 a2 a3 a4 post f 0 I)
set_option maxRecDepth 100000 in
set_option maxHeartbeats 4000000 in
theorem s_mX8_copyRow {X : QX} {S : QS} {a1 : Int32} {a2 : Int32} {a3 : Int32} {a4 : Int32} {I : QI} {J : QJ} {post : QI → Prop} (hS : Sh S) (h : wX8_copyRow a1 a2 a3 a4 I post) : CX X mX8_copyRow 1 0 0 [.ref 51, .int a1, .int a2, .int a3, .int a4] S I J (q_Pv S (fun I2 J2 => J = J2 ∧ post I2)) := by
  refine CX.of (lo := [(0, .ref 51), (1, .int a1), (2, .int a2), (3, .int a3), (4, .int a4)]) ok_mX8_copyRow rfl (Nat.le_of_ble_eq_true rfl) rfl ?_
  replace h : (∃ f : Nat, wX8_copyRow_3 a1 a2 a3 a4 post f 0 I) := h
  refine V_iconst (v := 0) dX8_copyRow_0 (by decide) ?_
  refine V_istore (lo2 := [(5, .int 0), (0, .ref 51), (1, .int a1), (2, .int a2), (3, .int a3), (4, .int a4)]) dX8_copyRow_1 (by decide) rfl ?_
  refine V_sub (lo2 := [(0, .ref 51), (1, .int a1), (2, .int a2), (3, .int a3), (4, .int a4), (5, .int 0)]) [1, 2, 3, 4, 5, 0] rfl ?_
  obtain ⟨f9, h⟩ := h
  refine swX8_copyRow_3 hS f9 _ _ h
def wX8_areSame_6 (a1 : Int32) (a2 : Int32) (a3 : Int32) (a4 : Int32) (I : QI) (post : Int32 → Prop) : Nat → Int32 → Int32 → Prop
  | 0, _, _ => False
  | n + 1, x5, x6 => (vp_in a1 24 ∧ (((I 61 (a1).toNatClampNeg) ≤ x6 → ((x5 = 0 ∨ x5 = 1) ∧ post x5)) ∧ (¬ (I 61 (a1).toNatClampNeg) ≤ x6 → ((x5 = 0 → (∀ v1 : Int32, v1 = (x6 + 1) → (wX8_areSame_6 a1 a2 a3 a4 I post n 0 v1))) ∧ (¬ x5 = 0 → (wX8_cellOf a1 a2 x6 I (fun r2 => (wX8_cellOf a3 a4 x6 I (fun r3 => ((¬ r2 = r3 → (∀ v4 : Int32, v4 = (x6 + 1) → (wX8_areSame_6 a1 a2 a3 a4 I post n 0 v4))) ∧ (r2 = r3 → (∀ v5 : Int32, v5 = (x6 + 1) → (wX8_areSame_6 a1 a2 a3 a4 I post n 1 v5)))))))))))))
set_option maxRecDepth 100000 in
set_option maxHeartbeats 4000000 in
theorem swX8_areSame_6 {X : QX} {S : QS} {a1 : Int32} {a2 : Int32} {a3 : Int32} {a4 : Int32} {I : QI} {J : QJ} {post : Int32 → Prop} (hS : Sh S) : ∀ (f : Nat) (x5 : Int32) (x6 : Int32), wX8_areSame_6 a1 a2 a3 a4 I post f x5 x6 → V X mX8_areSame 1 0 0 (q_Pi S (fun r I2 J2 => I = I2 ∧ J = J2 ∧ post r)) 6 [(0, .ref 51), (1, .int a1), (2, .int a2), (3, .int a3), (4, .int a4), (5, .int x5), (6, .int x6)] [] S I J 0 0 := by
  intro f
  induction f with
  | zero => intro x5 x6 h; exact h.elim
  | succ n ih =>
    intro x5 x6 h
    replace h : (vp_in a1 24 ∧ (((I 61 (a1).toNatClampNeg) ≤ x6 → ((x5 = 0 ∨ x5 = 1) ∧ post x5)) ∧ (¬ (I 61 (a1).toNatClampNeg) ≤ x6 → ((x5 = 0 → (∀ v1 : Int32, v1 = (x6 + 1) → (wX8_areSame_6 a1 a2 a3 a4 I post n 0 v1))) ∧ (¬ x5 = 0 → (wX8_cellOf a1 a2 x6 I (fun r2 => (wX8_cellOf a3 a4 x6 I (fun r3 => ((¬ r2 = r3 → (∀ v4 : Int32, v4 = (x6 + 1) → (wX8_areSame_6 a1 a2 a3 a4 I post n 0 v4))) ∧ (r2 = r3 → (∀ v5 : Int32, v5 = (x6 + 1) → (wX8_areSame_6 a1 a2 a3 a4 I post n 1 v5))))))))))))) := h
    refine V_iload dX8_areSame_6 rfl ?_
    refine V_aload_n dX8_areSame_8 rfl rfl ?_
    refine V_getr dX8_areSame_9 fl_RX8_37 (hS.n 51 rfl) (hS.k 51 8 rfl) rfl (hS.r 51 12 61 rfl) ?_
    refine V_iload_n dX8_areSame_12 rfl rfl ?_
    obtain ⟨hb, h⟩ := h
    refine V_iald dX8_areSame_13 (hS.n 61 rfl) (hS.k 61 9 rfl) (by rw [(hS.z 61 24 rfl)]; exact hb) ?_
    refine V_icmp_ge 55 dX8_areSame_14 rfl (fun hc => ?_) (fun hc => ?_)
    · replace h := h.1 hc
      refine V_iload dX8_areSame_55 rfl ?_
      obtain ⟨hz, h⟩ := h
      exact V_zret dX8_areSame_57 rfl (q_nz hz) (by decide) (by decide) ⟨_, rfl, rfl, rfl, rfl, h⟩
    · replace h := h.2 hc
      refine V_iload dX8_areSame_17 rfl ?_
      refine V_if_eq 46 dX8_areSame_19 rfl (fun hc => ?_) (fun hc => ?_)
      · replace h := h.1 hc
        refine V_iconst (v := 0) dX8_areSame_46 (by decide) ?_
        refine V_istore (lo2 := [(5, .int 0), (0, .ref 51), (1, .int a1), (2, .int a2), (3, .int a3), (4, .int a4), (6, .int x6)]) dX8_areSame_47 (by decide) rfl ?_
        obtain ⟨v1, e_v1⟩ : ∃ z : Int32, z = (x6 + 1) := ⟨_, rfl⟩
        replace h := h v1 e_v1
        refine V_iinc (lo2 := [(6, .int v1), (5, .int 0), (0, .ref 51), (1, .int a1), (2, .int a2), (3, .int a3), (4, .int a4)]) 6 dX8_areSame_49 rfl (v := v1) (by rw [e_v1]; first | done | rfl) (by decide) rfl ?_
        refine V_goto 6 dX8_areSame_52 rfl ?_
        refine V_sub (lo2 := [(0, .ref 51), (1, .int a1), (2, .int a2), (3, .int a3), (4, .int a4), (5, .int 0), (6, .int v1)]) [2, 3, 4, 5, 6, 1, 0] rfl ?_
        exact ih _ _ h
      · replace h := h.2 hc
        refine V_aload_n dX8_areSame_22 rfl rfl ?_
        refine V_iload_n dX8_areSame_23 rfl rfl ?_
        refine V_iload_n dX8_areSame_24 rfl rfl ?_
        refine V_iload dX8_areSame_25 rfl ?_
        refine V_callVi (st := []) [.int a1, .int a2, .int x6] dX8_areSame_27 ok_mX8_cellOf rfl ml_RX8_144 in_mX8_cellOf se_mX8_cellOf (hS.n 51 rfl) (hS.k 51 8 rfl) (by decide) rfl (Nat.le_of_ble_eq_true rfl) (by decide) (by decide) (by decide) (s_mX8_cellOf hS h) (fun r2 I9 J9 h => ?_)
        obtain ⟨rfl, rfl, h⟩ := h
        refine V_aload_n dX8_areSame_30 rfl rfl ?_
        refine V_iload_n dX8_areSame_31 rfl rfl ?_
        refine V_iload dX8_areSame_32 rfl ?_
        refine V_iload dX8_areSame_34 rfl ?_
        refine V_callVi (st := [.int r2]) [.int a3, .int a4, .int x6] dX8_areSame_36 ok_mX8_cellOf rfl ml_RX8_144 in_mX8_cellOf se_mX8_cellOf (hS.n 51 rfl) (hS.k 51 8 rfl) (by decide) rfl (Nat.le_of_ble_eq_true rfl) (by decide) (by decide) (by decide) (s_mX8_cellOf hS h) (fun r3 I9 J9 h => ?_)
        obtain ⟨rfl, rfl, h⟩ := h
        refine V_icmp_ne 46 dX8_areSame_39 rfl (fun hc => ?_) (fun hc => ?_)
        · replace h := h.1 hc
          refine V_iconst (v := 0) dX8_areSame_46 (by decide) ?_
          refine V_istore (lo2 := [(5, .int 0), (0, .ref 51), (1, .int a1), (2, .int a2), (3, .int a3), (4, .int a4), (6, .int x6)]) dX8_areSame_47 (by decide) rfl ?_
          obtain ⟨v4, e_v4⟩ : ∃ z : Int32, z = (x6 + 1) := ⟨_, rfl⟩
          replace h := h v4 e_v4
          refine V_iinc (lo2 := [(6, .int v4), (5, .int 0), (0, .ref 51), (1, .int a1), (2, .int a2), (3, .int a3), (4, .int a4)]) 6 dX8_areSame_49 rfl (v := v4) (by rw [e_v4]; first | done | rfl) (by decide) rfl ?_
          refine V_goto 6 dX8_areSame_52 rfl ?_
          refine V_sub (lo2 := [(0, .ref 51), (1, .int a1), (2, .int a2), (3, .int a3), (4, .int a4), (5, .int 0), (6, .int v4)]) [2, 3, 4, 5, 6, 1, 0] rfl ?_
          exact ih _ _ h
        · replace h := h.2 hc
          refine V_iconst (v := 1) dX8_areSame_42 (by decide) ?_
          refine V_goto 47 dX8_areSame_43 rfl ?_
          refine V_istore (lo2 := [(5, .int 1), (0, .ref 51), (1, .int a1), (2, .int a2), (3, .int a3), (4, .int a4), (6, .int x6)]) dX8_areSame_47 (by decide) rfl ?_
          obtain ⟨v5, e_v5⟩ : ∃ z : Int32, z = (x6 + 1) := ⟨_, rfl⟩
          replace h := h v5 e_v5
          refine V_iinc (lo2 := [(6, .int v5), (5, .int 1), (0, .ref 51), (1, .int a1), (2, .int a2), (3, .int a3), (4, .int a4)]) 6 dX8_areSame_49 rfl (v := v5) (by rw [e_v5]; first | done | rfl) (by decide) rfl ?_
          refine V_goto 6 dX8_areSame_52 rfl ?_
          refine V_sub (lo2 := [(0, .ref 51), (1, .int a1), (2, .int a2), (3, .int a3), (4, .int a4), (5, .int 1), (6, .int v5)]) [2, 3, 4, 5, 6, 1, 0] rfl ?_
          exact ih _ _ h
def wX8_areSame (a1 : Int32) (a2 : Int32) (a3 : Int32) (a4 : Int32) (I : QI) (post : Int32 → Prop) : Prop := (∃ f : Nat, wX8_areSame_6 a1 a2 a3 a4 I post f 1 0)
set_option maxRecDepth 100000 in
set_option maxHeartbeats 4000000 in
theorem s_mX8_areSame {X : QX} {S : QS} {a1 : Int32} {a2 : Int32} {a3 : Int32} {a4 : Int32} {I : QI} {J : QJ} {post : Int32 → Prop} (hS : Sh S) (h : wX8_areSame a1 a2 a3 a4 I post) : CX X mX8_areSame 1 0 0 [.ref 51, .int a1, .int a2, .int a3, .int a4] S I J (q_Pi S (fun r I2 J2 => I = I2 ∧ J = J2 ∧ post r)) := by
  refine CX.of (lo := [(0, .ref 51), (1, .int a1), (2, .int a2), (3, .int a3), (4, .int a4)]) ok_mX8_areSame rfl (Nat.le_of_ble_eq_true rfl) rfl ?_
  replace h : (∃ f : Nat, wX8_areSame_6 a1 a2 a3 a4 I post f 1 0) := h
  refine V_iconst (v := 1) dX8_areSame_0 (by decide) ?_
  refine V_istore (lo2 := [(5, .int 1), (0, .ref 51), (1, .int a1), (2, .int a2), (3, .int a3), (4, .int a4)]) dX8_areSame_1 (by decide) rfl ?_
  refine V_iconst (v := 0) dX8_areSame_3 (by decide) ?_
  refine V_istore (lo2 := [(6, .int 0), (5, .int 1), (0, .ref 51), (1, .int a1), (2, .int a2), (3, .int a3), (4, .int a4)]) dX8_areSame_4 (by decide) rfl ?_
  refine V_sub (lo2 := [(0, .ref 51), (1, .int a1), (2, .int a2), (3, .int a3), (4, .int a4), (5, .int 1), (6, .int 0)]) [2, 3, 4, 5, 6, 1, 0] rfl ?_
  obtain ⟨f9, h⟩ := h
  refine swX8_areSame_6 hS f9 _ _ h
def wX8_markAgain_70 (a1 : Int32) (a2 : Int32) (K154 : Int32 → QI → Prop) (post : QI → Prop) : Nat → Int32 → Int32 → Int32 → Int32 → QI → Prop
  | 0, _, _, _, _, _ => False
  | n + 1, x3, x4, x5, x6, I => ((x3 ≤ x6 → (K154 x3 I)) ∧ (¬ x3 ≤ x6 → (vp_in x3 400 ∧ ((¬ (I 68 (x3).toNatClampNeg) = 0 → (vp_in x3 400 ∧ (∀ I3 : QI, I3 = q_u2 I 68 (x3).toNatClampNeg 1 → (∀ v4 : Int32, v4 = (x6 + 1) → (wX8_markAgain_70 a1 a2 K154 post n x3 x4 x5 v4 I3))))) ∧ ((I 68 (x3).toNatClampNeg) = 0 → (vp_in a1 24 ∧ (((I 64 (a1).toNatClampNeg) ≤ x6 → (vp_in a1 24 ∧ (((I 64 (a1).toNatClampNeg) ≤ x6 → (vp_in a1 24 ∧ (wX8_areSame a2 (x6 - (I 64 (a1).toNatClampNeg)) x4 x5 I (fun r5 => ((r5 = 0 → (vp_in x3 400 ∧ (∀ I6 : QI, I6 = q_u2 I 68 (x3).toNatClampNeg 0 → (∀ v7 : Int32, v7 = (x6 + 1) → (wX8_markAgain_70 a1 a2 K154 post n x3 x4 x5 v7 I6))))) ∧ (¬ r5 = 0 → (vp_in x3 400 ∧ (∀ I8 : QI, I8 = q_u2 I 68 (x3).toNatClampNeg 1 → (∀ v9 : Int32, v9 = (x6 + 1) → (wX8_markAgain_70 a1 a2 K154 post n x3 x4 x5 v9 I8)))))))))) ∧ (¬ (I 64 (a1).toNatClampNeg) ≤ x6 → (wX8_areSame a2 x6 x4 x5 I (fun r10 => ((r10 = 0 → (vp_in x3 400 ∧ (∀ I11 : QI, I11 = q_u2 I 68 (x3).toNatClampNeg 0 → (∀ v12 : Int32, v12 = (x6 + 1) → (wX8_markAgain_70 a1 a2 K154 post n x3 x4 x5 v12 I11))))) ∧ (¬ r10 = 0 → (vp_in x3 400 ∧ (∀ I13 : QI, I13 = q_u2 I 68 (x3).toNatClampNeg 1 → (∀ v14 : Int32, v14 = (x6 + 1) → (wX8_markAgain_70 a1 a2 K154 post n x3 x4 x5 v14 I13)))))))))))) ∧ (¬ (I 64 (a1).toNatClampNeg) ≤ x6 → (vp_in a1 24 ∧ (((I 64 (a1).toNatClampNeg) ≤ x6 → (vp_in a1 24 ∧ (wX8_areSame a1 (x6 - (I 64 (a1).toNatClampNeg)) x4 x5 I (fun r15 => ((r15 = 0 → (vp_in x3 400 ∧ (∀ I16 : QI, I16 = q_u2 I 68 (x3).toNatClampNeg 0 → (∀ v17 : Int32, v17 = (x6 + 1) → (wX8_markAgain_70 a1 a2 K154 post n x3 x4 x5 v17 I16))))) ∧ (¬ r15 = 0 → (vp_in x3 400 ∧ (∀ I18 : QI, I18 = q_u2 I 68 (x3).toNatClampNeg 1 → (∀ v19 : Int32, v19 = (x6 + 1) → (wX8_markAgain_70 a1 a2 K154 post n x3 x4 x5 v19 I18)))))))))) ∧ (¬ (I 64 (a1).toNatClampNeg) ≤ x6 → (wX8_areSame a1 x6 x4 x5 I (fun r20 => ((r20 = 0 → (vp_in x3 400 ∧ (∀ I21 : QI, I21 = q_u2 I 68 (x3).toNatClampNeg 0 → (∀ v22 : Int32, v22 = (x6 + 1) → (wX8_markAgain_70 a1 a2 K154 post n x3 x4 x5 v22 I21))))) ∧ (¬ r20 = 0 → (vp_in x3 400 ∧ (∀ I23 : QI, I23 = q_u2 I 68 (x3).toNatClampNeg 1 → (∀ v24 : Int32, v24 = (x6 + 1) → (wX8_markAgain_70 a1 a2 K154 post n x3 x4 x5 v24 I23)))))))))))))))))))
set_option maxRecDepth 100000 in
set_option maxHeartbeats 4000000 in
theorem swX8_markAgain_70 {X : QX} {S : QS} {a1 : Int32} {a2 : Int32} {J : QJ} {K154 : Int32 → QI → Prop} {post : QI → Prop} (hS : Sh S) (hK154 : ∀ (z3 : Int32) (I : QI), K154 z3 I → V X mX8_markAgain 2 0 0 (q_Pv S (fun I2 J2 => J = J2 ∧ post I2)) 154 [(0, .ref 51), (1, .int a1), (2, .int a2), (3, .int z3)] [] S I J 0 0) : ∀ (f : Nat) (x3 : Int32) (x4 : Int32) (x5 : Int32) (x6 : Int32) (I : QI), wX8_markAgain_70 a1 a2 K154 post f x3 x4 x5 x6 I → V X mX8_markAgain 2 0 0 (q_Pv S (fun I2 J2 => J = J2 ∧ post I2)) 70 [(0, .ref 51), (1, .int a1), (2, .int a2), (3, .int x3), (4, .int x4), (5, .int x5), (6, .int x6)] [] S I J 0 0 := by
  intro f
  induction f with
  | zero => intro x3 x4 x5 x6 I h; exact h.elim
  | succ n ih =>
    intro x3 x4 x5 x6 I h
    replace h : ((x3 ≤ x6 → (K154 x3 I)) ∧ (¬ x3 ≤ x6 → (vp_in x3 400 ∧ ((¬ (I 68 (x3).toNatClampNeg) = 0 → (vp_in x3 400 ∧ (∀ I3 : QI, I3 = q_u2 I 68 (x3).toNatClampNeg 1 → (∀ v4 : Int32, v4 = (x6 + 1) → (wX8_markAgain_70 a1 a2 K154 post n x3 x4 x5 v4 I3))))) ∧ ((I 68 (x3).toNatClampNeg) = 0 → (vp_in a1 24 ∧ (((I 64 (a1).toNatClampNeg) ≤ x6 → (vp_in a1 24 ∧ (((I 64 (a1).toNatClampNeg) ≤ x6 → (vp_in a1 24 ∧ (wX8_areSame a2 (x6 - (I 64 (a1).toNatClampNeg)) x4 x5 I (fun r5 => ((r5 = 0 → (vp_in x3 400 ∧ (∀ I6 : QI, I6 = q_u2 I 68 (x3).toNatClampNeg 0 → (∀ v7 : Int32, v7 = (x6 + 1) → (wX8_markAgain_70 a1 a2 K154 post n x3 x4 x5 v7 I6))))) ∧ (¬ r5 = 0 → (vp_in x3 400 ∧ (∀ I8 : QI, I8 = q_u2 I 68 (x3).toNatClampNeg 1 → (∀ v9 : Int32, v9 = (x6 + 1) → (wX8_markAgain_70 a1 a2 K154 post n x3 x4 x5 v9 I8)))))))))) ∧ (¬ (I 64 (a1).toNatClampNeg) ≤ x6 → (wX8_areSame a2 x6 x4 x5 I (fun r10 => ((r10 = 0 → (vp_in x3 400 ∧ (∀ I11 : QI, I11 = q_u2 I 68 (x3).toNatClampNeg 0 → (∀ v12 : Int32, v12 = (x6 + 1) → (wX8_markAgain_70 a1 a2 K154 post n x3 x4 x5 v12 I11))))) ∧ (¬ r10 = 0 → (vp_in x3 400 ∧ (∀ I13 : QI, I13 = q_u2 I 68 (x3).toNatClampNeg 1 → (∀ v14 : Int32, v14 = (x6 + 1) → (wX8_markAgain_70 a1 a2 K154 post n x3 x4 x5 v14 I13)))))))))))) ∧ (¬ (I 64 (a1).toNatClampNeg) ≤ x6 → (vp_in a1 24 ∧ (((I 64 (a1).toNatClampNeg) ≤ x6 → (vp_in a1 24 ∧ (wX8_areSame a1 (x6 - (I 64 (a1).toNatClampNeg)) x4 x5 I (fun r15 => ((r15 = 0 → (vp_in x3 400 ∧ (∀ I16 : QI, I16 = q_u2 I 68 (x3).toNatClampNeg 0 → (∀ v17 : Int32, v17 = (x6 + 1) → (wX8_markAgain_70 a1 a2 K154 post n x3 x4 x5 v17 I16))))) ∧ (¬ r15 = 0 → (vp_in x3 400 ∧ (∀ I18 : QI, I18 = q_u2 I 68 (x3).toNatClampNeg 1 → (∀ v19 : Int32, v19 = (x6 + 1) → (wX8_markAgain_70 a1 a2 K154 post n x3 x4 x5 v19 I18)))))))))) ∧ (¬ (I 64 (a1).toNatClampNeg) ≤ x6 → (wX8_areSame a1 x6 x4 x5 I (fun r20 => ((r20 = 0 → (vp_in x3 400 ∧ (∀ I21 : QI, I21 = q_u2 I 68 (x3).toNatClampNeg 0 → (∀ v22 : Int32, v22 = (x6 + 1) → (wX8_markAgain_70 a1 a2 K154 post n x3 x4 x5 v22 I21))))) ∧ (¬ r20 = 0 → (vp_in x3 400 ∧ (∀ I23 : QI, I23 = q_u2 I 68 (x3).toNatClampNeg 1 → (∀ v24 : Int32, v24 = (x6 + 1) → (wX8_markAgain_70 a1 a2 K154 post n x3 x4 x5 v24 I23))))))))))))))))))) := h
    refine V_iload dX8_markAgain_70 rfl ?_
    refine V_iload_n dX8_markAgain_72 rfl rfl ?_
    refine V_icmp_ge 154 dX8_markAgain_73 rfl (fun hc => ?_) (fun hc => ?_)
    · replace h := h.1 hc
      refine V_sub (lo2 := [(0, .ref 51), (1, .int a1), (2, .int a2), (3, .int x3)]) [0, 1, 2, 3] rfl ?_
      exact hK154 _ _ h
    · replace h := h.2 hc
      refine V_aload_n dX8_markAgain_76 rfl rfl ?_
      refine V_getr dX8_markAgain_77 fl_RX8_65 (hS.n 51 rfl) (hS.k 51 8 rfl) rfl (hS.r 51 22 68 rfl) ?_
      refine V_iload_n dX8_markAgain_80 rfl rfl ?_
      refine V_aload_n dX8_markAgain_81 rfl rfl ?_
      refine V_getr dX8_markAgain_82 fl_RX8_65 (hS.n 51 rfl) (hS.k 51 8 rfl) rfl (hS.r 51 22 68 rfl) ?_
      refine V_iload_n dX8_markAgain_85 rfl rfl ?_
      obtain ⟨hb, h⟩ := h
      refine V_zald dX8_markAgain_86 (hS.n 68 rfl) (hS.k 68 11 rfl) (by rw [(hS.z 68 400 rfl)]; exact hb) ?_
      refine V_if_ne 142 dX8_markAgain_87 rfl (fun hc => ?_) (fun hc => ?_)
      · replace h := h.1 hc
        refine V_iconst (v := 1) dX8_markAgain_142 (by decide) ?_
        refine V_goto 147 dX8_markAgain_143 rfl ?_
        obtain ⟨hb, h⟩ := h
        refine V_zast dX8_markAgain_147 (hS.n 68 rfl) (hS.k 68 11 rfl) (by rw [(hS.z 68 400 rfl)]; exact hb) (q_vz (by decide)) ?_
        refine V_memI (fun I3 e_I3 => ?_)
        replace h := h I3 e_I3
        obtain ⟨v4, e_v4⟩ : ∃ z : Int32, z = (x6 + 1) := ⟨_, rfl⟩
        replace h := h v4 e_v4
        refine V_iinc (lo2 := [(6, .int v4), (0, .ref 51), (1, .int a1), (2, .int a2), (3, .int x3), (4, .int x4), (5, .int x5)]) 6 dX8_markAgain_148 rfl (v := v4) (by rw [e_v4]; first | done | rfl) (by decide) rfl ?_
        refine V_goto 70 dX8_markAgain_151 rfl ?_
        refine V_sub (lo2 := [(0, .ref 51), (1, .int a1), (2, .int a2), (3, .int x3), (4, .int x4), (5, .int x5), (6, .int v4)]) [1, 2, 3, 4, 5, 6, 0] rfl ?_
        exact ih _ _ _ _ _ h
      · replace h := h.2 hc
        refine V_aload_n dX8_markAgain_90 rfl rfl ?_
        refine V_iload dX8_markAgain_91 rfl ?_
        refine V_aload_n dX8_markAgain_93 rfl rfl ?_
        refine V_getr dX8_markAgain_94 fl_RX8_51 (hS.n 51 rfl) (hS.k 51 8 rfl) rfl (hS.r 51 18 64 rfl) ?_
        refine V_iload_n dX8_markAgain_97 rfl rfl ?_
        obtain ⟨hb, h⟩ := h
        refine V_iald dX8_markAgain_98 (hS.n 64 rfl) (hS.k 64 9 rfl) (by rw [(hS.z 64 24 rfl)]; exact hb) ?_
        refine V_icmp_ge 106 dX8_markAgain_99 rfl (fun hc => ?_) (fun hc => ?_)
        · replace h := h.1 hc
          refine V_iload_n dX8_markAgain_106 rfl rfl ?_
          refine V_iload dX8_markAgain_107 rfl ?_
          refine V_aload_n dX8_markAgain_109 rfl rfl ?_
          refine V_getr dX8_markAgain_110 fl_RX8_51 (hS.n 51 rfl) (hS.k 51 8 rfl) rfl (hS.r 51 18 64 rfl) ?_
          refine V_iload_n dX8_markAgain_113 rfl rfl ?_
          obtain ⟨hb, h⟩ := h
          refine V_iald dX8_markAgain_114 (hS.n 64 rfl) (hS.k 64 9 rfl) (by rw [(hS.z 64 24 rfl)]; exact hb) ?_
          refine V_icmp_ge 123 dX8_markAgain_115 rfl (fun hc => ?_) (fun hc => ?_)
          · replace h := h.1 hc
            refine V_iload dX8_markAgain_123 rfl ?_
            refine V_aload_n dX8_markAgain_125 rfl rfl ?_
            refine V_getr dX8_markAgain_126 fl_RX8_51 (hS.n 51 rfl) (hS.k 51 8 rfl) rfl (hS.r 51 18 64 rfl) ?_
            refine V_iload_n dX8_markAgain_129 rfl rfl ?_
            obtain ⟨hb, h⟩ := h
            refine V_iald dX8_markAgain_130 (hS.n 64 rfl) (hS.k 64 9 rfl) (by rw [(hS.z 64 24 rfl)]; exact hb) ?_
            refine V_isub dX8_markAgain_131 ?_
            refine V_iload dX8_markAgain_132 rfl ?_
            refine V_iload dX8_markAgain_134 rfl ?_
            refine V_callVi (st := [.int x3, .ref 68]) [.int a2, .int (x6 - (I 64 (a1).toNatClampNeg)), .int x4, .int x5] dX8_markAgain_136 ok_mX8_areSame rfl ml_RX8_172 in_mX8_areSame se_mX8_areSame (hS.n 51 rfl) (hS.k 51 8 rfl) (by decide) rfl (Nat.le_of_ble_eq_true rfl) (by decide) (by decide) (by decide) (s_mX8_areSame hS h) (fun r5 I9 J9 h => ?_)
            obtain ⟨rfl, rfl, h⟩ := h
            refine V_if_eq 146 dX8_markAgain_139 rfl (fun hc => ?_) (fun hc => ?_)
            · replace h := h.1 hc
              refine V_iconst (v := 0) dX8_markAgain_146 (by decide) ?_
              obtain ⟨hb, h⟩ := h
              refine V_zast dX8_markAgain_147 (hS.n 68 rfl) (hS.k 68 11 rfl) (by rw [(hS.z 68 400 rfl)]; exact hb) (q_vz (by decide)) ?_
              refine V_memI (fun I6 e_I6 => ?_)
              replace h := h I6 e_I6
              obtain ⟨v7, e_v7⟩ : ∃ z : Int32, z = (x6 + 1) := ⟨_, rfl⟩
              replace h := h v7 e_v7
              refine V_iinc (lo2 := [(6, .int v7), (0, .ref 51), (1, .int a1), (2, .int a2), (3, .int x3), (4, .int x4), (5, .int x5)]) 6 dX8_markAgain_148 rfl (v := v7) (by rw [e_v7]; first | done | rfl) (by decide) rfl ?_
              refine V_goto 70 dX8_markAgain_151 rfl ?_
              refine V_sub (lo2 := [(0, .ref 51), (1, .int a1), (2, .int a2), (3, .int x3), (4, .int x4), (5, .int x5), (6, .int v7)]) [1, 2, 3, 4, 5, 6, 0] rfl ?_
              exact ih _ _ _ _ _ h
            · replace h := h.2 hc
              refine V_iconst (v := 1) dX8_markAgain_142 (by decide) ?_
              refine V_goto 147 dX8_markAgain_143 rfl ?_
              obtain ⟨hb, h⟩ := h
              refine V_zast dX8_markAgain_147 (hS.n 68 rfl) (hS.k 68 11 rfl) (by rw [(hS.z 68 400 rfl)]; exact hb) (q_vz (by decide)) ?_
              refine V_memI (fun I8 e_I8 => ?_)
              replace h := h I8 e_I8
              obtain ⟨v9, e_v9⟩ : ∃ z : Int32, z = (x6 + 1) := ⟨_, rfl⟩
              replace h := h v9 e_v9
              refine V_iinc (lo2 := [(6, .int v9), (0, .ref 51), (1, .int a1), (2, .int a2), (3, .int x3), (4, .int x4), (5, .int x5)]) 6 dX8_markAgain_148 rfl (v := v9) (by rw [e_v9]; first | done | rfl) (by decide) rfl ?_
              refine V_goto 70 dX8_markAgain_151 rfl ?_
              refine V_sub (lo2 := [(0, .ref 51), (1, .int a1), (2, .int a2), (3, .int x3), (4, .int x4), (5, .int x5), (6, .int v9)]) [1, 2, 3, 4, 5, 6, 0] rfl ?_
              exact ih _ _ _ _ _ h
          · replace h := h.2 hc
            refine V_iload dX8_markAgain_118 rfl ?_
            refine V_goto 132 dX8_markAgain_120 rfl ?_
            refine V_iload dX8_markAgain_132 rfl ?_
            refine V_iload dX8_markAgain_134 rfl ?_
            refine V_callVi (st := [.int x3, .ref 68]) [.int a2, .int x6, .int x4, .int x5] dX8_markAgain_136 ok_mX8_areSame rfl ml_RX8_172 in_mX8_areSame se_mX8_areSame (hS.n 51 rfl) (hS.k 51 8 rfl) (by decide) rfl (Nat.le_of_ble_eq_true rfl) (by decide) (by decide) (by decide) (s_mX8_areSame hS h) (fun r10 I9 J9 h => ?_)
            obtain ⟨rfl, rfl, h⟩ := h
            refine V_if_eq 146 dX8_markAgain_139 rfl (fun hc => ?_) (fun hc => ?_)
            · replace h := h.1 hc
              refine V_iconst (v := 0) dX8_markAgain_146 (by decide) ?_
              obtain ⟨hb, h⟩ := h
              refine V_zast dX8_markAgain_147 (hS.n 68 rfl) (hS.k 68 11 rfl) (by rw [(hS.z 68 400 rfl)]; exact hb) (q_vz (by decide)) ?_
              refine V_memI (fun I11 e_I11 => ?_)
              replace h := h I11 e_I11
              obtain ⟨v12, e_v12⟩ : ∃ z : Int32, z = (x6 + 1) := ⟨_, rfl⟩
              replace h := h v12 e_v12
              refine V_iinc (lo2 := [(6, .int v12), (0, .ref 51), (1, .int a1), (2, .int a2), (3, .int x3), (4, .int x4), (5, .int x5)]) 6 dX8_markAgain_148 rfl (v := v12) (by rw [e_v12]; first | done | rfl) (by decide) rfl ?_
              refine V_goto 70 dX8_markAgain_151 rfl ?_
              refine V_sub (lo2 := [(0, .ref 51), (1, .int a1), (2, .int a2), (3, .int x3), (4, .int x4), (5, .int x5), (6, .int v12)]) [1, 2, 3, 4, 5, 6, 0] rfl ?_
              exact ih _ _ _ _ _ h
            · replace h := h.2 hc
              refine V_iconst (v := 1) dX8_markAgain_142 (by decide) ?_
              refine V_goto 147 dX8_markAgain_143 rfl ?_
              obtain ⟨hb, h⟩ := h
              refine V_zast dX8_markAgain_147 (hS.n 68 rfl) (hS.k 68 11 rfl) (by rw [(hS.z 68 400 rfl)]; exact hb) (q_vz (by decide)) ?_
              refine V_memI (fun I13 e_I13 => ?_)
              replace h := h I13 e_I13
              obtain ⟨v14, e_v14⟩ : ∃ z : Int32, z = (x6 + 1) := ⟨_, rfl⟩
              replace h := h v14 e_v14
              refine V_iinc (lo2 := [(6, .int v14), (0, .ref 51), (1, .int a1), (2, .int a2), (3, .int x3), (4, .int x4), (5, .int x5)]) 6 dX8_markAgain_148 rfl (v := v14) (by rw [e_v14]; first | done | rfl) (by decide) rfl ?_
              refine V_goto 70 dX8_markAgain_151 rfl ?_
              refine V_sub (lo2 := [(0, .ref 51), (1, .int a1), (2, .int a2), (3, .int x3), (4, .int x4), (5, .int x5), (6, .int v14)]) [1, 2, 3, 4, 5, 6, 0] rfl ?_
              exact ih _ _ _ _ _ h
        · replace h := h.2 hc
          refine V_iload_n dX8_markAgain_102 rfl rfl ?_
          refine V_goto 107 dX8_markAgain_103 rfl ?_
          refine V_iload dX8_markAgain_107 rfl ?_
          refine V_aload_n dX8_markAgain_109 rfl rfl ?_
          refine V_getr dX8_markAgain_110 fl_RX8_51 (hS.n 51 rfl) (hS.k 51 8 rfl) rfl (hS.r 51 18 64 rfl) ?_
          refine V_iload_n dX8_markAgain_113 rfl rfl ?_
          obtain ⟨hb, h⟩ := h
          refine V_iald dX8_markAgain_114 (hS.n 64 rfl) (hS.k 64 9 rfl) (by rw [(hS.z 64 24 rfl)]; exact hb) ?_
          refine V_icmp_ge 123 dX8_markAgain_115 rfl (fun hc => ?_) (fun hc => ?_)
          · replace h := h.1 hc
            refine V_iload dX8_markAgain_123 rfl ?_
            refine V_aload_n dX8_markAgain_125 rfl rfl ?_
            refine V_getr dX8_markAgain_126 fl_RX8_51 (hS.n 51 rfl) (hS.k 51 8 rfl) rfl (hS.r 51 18 64 rfl) ?_
            refine V_iload_n dX8_markAgain_129 rfl rfl ?_
            obtain ⟨hb, h⟩ := h
            refine V_iald dX8_markAgain_130 (hS.n 64 rfl) (hS.k 64 9 rfl) (by rw [(hS.z 64 24 rfl)]; exact hb) ?_
            refine V_isub dX8_markAgain_131 ?_
            refine V_iload dX8_markAgain_132 rfl ?_
            refine V_iload dX8_markAgain_134 rfl ?_
            refine V_callVi (st := [.int x3, .ref 68]) [.int a1, .int (x6 - (I 64 (a1).toNatClampNeg)), .int x4, .int x5] dX8_markAgain_136 ok_mX8_areSame rfl ml_RX8_172 in_mX8_areSame se_mX8_areSame (hS.n 51 rfl) (hS.k 51 8 rfl) (by decide) rfl (Nat.le_of_ble_eq_true rfl) (by decide) (by decide) (by decide) (s_mX8_areSame hS h) (fun r15 I9 J9 h => ?_)
            obtain ⟨rfl, rfl, h⟩ := h
            refine V_if_eq 146 dX8_markAgain_139 rfl (fun hc => ?_) (fun hc => ?_)
            · replace h := h.1 hc
              refine V_iconst (v := 0) dX8_markAgain_146 (by decide) ?_
              obtain ⟨hb, h⟩ := h
              refine V_zast dX8_markAgain_147 (hS.n 68 rfl) (hS.k 68 11 rfl) (by rw [(hS.z 68 400 rfl)]; exact hb) (q_vz (by decide)) ?_
              refine V_memI (fun I16 e_I16 => ?_)
              replace h := h I16 e_I16
              obtain ⟨v17, e_v17⟩ : ∃ z : Int32, z = (x6 + 1) := ⟨_, rfl⟩
              replace h := h v17 e_v17
              refine V_iinc (lo2 := [(6, .int v17), (0, .ref 51), (1, .int a1), (2, .int a2), (3, .int x3), (4, .int x4), (5, .int x5)]) 6 dX8_markAgain_148 rfl (v := v17) (by rw [e_v17]; first | done | rfl) (by decide) rfl ?_
              refine V_goto 70 dX8_markAgain_151 rfl ?_
              refine V_sub (lo2 := [(0, .ref 51), (1, .int a1), (2, .int a2), (3, .int x3), (4, .int x4), (5, .int x5), (6, .int v17)]) [1, 2, 3, 4, 5, 6, 0] rfl ?_
              exact ih _ _ _ _ _ h
            · replace h := h.2 hc
              refine V_iconst (v := 1) dX8_markAgain_142 (by decide) ?_
              refine V_goto 147 dX8_markAgain_143 rfl ?_
              obtain ⟨hb, h⟩ := h
              refine V_zast dX8_markAgain_147 (hS.n 68 rfl) (hS.k 68 11 rfl) (by rw [(hS.z 68 400 rfl)]; exact hb) (q_vz (by decide)) ?_
              refine V_memI (fun I18 e_I18 => ?_)
              replace h := h I18 e_I18
              obtain ⟨v19, e_v19⟩ : ∃ z : Int32, z = (x6 + 1) := ⟨_, rfl⟩
              replace h := h v19 e_v19
              refine V_iinc (lo2 := [(6, .int v19), (0, .ref 51), (1, .int a1), (2, .int a2), (3, .int x3), (4, .int x4), (5, .int x5)]) 6 dX8_markAgain_148 rfl (v := v19) (by rw [e_v19]; first | done | rfl) (by decide) rfl ?_
              refine V_goto 70 dX8_markAgain_151 rfl ?_
              refine V_sub (lo2 := [(0, .ref 51), (1, .int a1), (2, .int a2), (3, .int x3), (4, .int x4), (5, .int x5), (6, .int v19)]) [1, 2, 3, 4, 5, 6, 0] rfl ?_
              exact ih _ _ _ _ _ h
          · replace h := h.2 hc
            refine V_iload dX8_markAgain_118 rfl ?_
            refine V_goto 132 dX8_markAgain_120 rfl ?_
            refine V_iload dX8_markAgain_132 rfl ?_
            refine V_iload dX8_markAgain_134 rfl ?_
            refine V_callVi (st := [.int x3, .ref 68]) [.int a1, .int x6, .int x4, .int x5] dX8_markAgain_136 ok_mX8_areSame rfl ml_RX8_172 in_mX8_areSame se_mX8_areSame (hS.n 51 rfl) (hS.k 51 8 rfl) (by decide) rfl (Nat.le_of_ble_eq_true rfl) (by decide) (by decide) (by decide) (s_mX8_areSame hS h) (fun r20 I9 J9 h => ?_)
            obtain ⟨rfl, rfl, h⟩ := h
            refine V_if_eq 146 dX8_markAgain_139 rfl (fun hc => ?_) (fun hc => ?_)
            · replace h := h.1 hc
              refine V_iconst (v := 0) dX8_markAgain_146 (by decide) ?_
              obtain ⟨hb, h⟩ := h
              refine V_zast dX8_markAgain_147 (hS.n 68 rfl) (hS.k 68 11 rfl) (by rw [(hS.z 68 400 rfl)]; exact hb) (q_vz (by decide)) ?_
              refine V_memI (fun I21 e_I21 => ?_)
              replace h := h I21 e_I21
              obtain ⟨v22, e_v22⟩ : ∃ z : Int32, z = (x6 + 1) := ⟨_, rfl⟩
              replace h := h v22 e_v22
              refine V_iinc (lo2 := [(6, .int v22), (0, .ref 51), (1, .int a1), (2, .int a2), (3, .int x3), (4, .int x4), (5, .int x5)]) 6 dX8_markAgain_148 rfl (v := v22) (by rw [e_v22]; first | done | rfl) (by decide) rfl ?_
              refine V_goto 70 dX8_markAgain_151 rfl ?_
              refine V_sub (lo2 := [(0, .ref 51), (1, .int a1), (2, .int a2), (3, .int x3), (4, .int x4), (5, .int x5), (6, .int v22)]) [1, 2, 3, 4, 5, 6, 0] rfl ?_
              exact ih _ _ _ _ _ h
            · replace h := h.2 hc
              refine V_iconst (v := 1) dX8_markAgain_142 (by decide) ?_
              refine V_goto 147 dX8_markAgain_143 rfl ?_
              obtain ⟨hb, h⟩ := h
              refine V_zast dX8_markAgain_147 (hS.n 68 rfl) (hS.k 68 11 rfl) (by rw [(hS.z 68 400 rfl)]; exact hb) (q_vz (by decide)) ?_
              refine V_memI (fun I23 e_I23 => ?_)
              replace h := h I23 e_I23
              obtain ⟨v24, e_v24⟩ : ∃ z : Int32, z = (x6 + 1) := ⟨_, rfl⟩
              replace h := h v24 e_v24
              refine V_iinc (lo2 := [(6, .int v24), (0, .ref 51), (1, .int a1), (2, .int a2), (3, .int x3), (4, .int x4), (5, .int x5)]) 6 dX8_markAgain_148 rfl (v := v24) (by rw [e_v24]; first | done | rfl) (by decide) rfl ?_
              refine V_goto 70 dX8_markAgain_151 rfl ?_
              refine V_sub (lo2 := [(0, .ref 51), (1, .int a1), (2, .int a2), (3, .int x3), (4, .int x4), (5, .int x5), (6, .int v24)]) [1, 2, 3, 4, 5, 6, 0] rfl ?_
              exact ih _ _ _ _ _ h
def wX8_markAgain_2 (a1 : Int32) (a2 : Int32) (post : QI → Prop) : Nat → Int32 → QI → Prop
  | 0, _, _ => False
  | n + 1, x3, I => (vp_in a1 24 ∧ (vp_in a2 24 ∧ ((((I 64 (a1).toNatClampNeg) + (I 64 (a2).toNatClampNeg)) ≤ x3 → post I) ∧ (¬ ((I 64 (a1).toNatClampNeg) + (I 64 (a2).toNatClampNeg)) ≤ x3 → (vp_in a1 24 ∧ (((I 64 (a1).toNatClampNeg) ≤ x3 → (vp_in a1 24 ∧ (((I 64 (a1).toNatClampNeg) ≤ x3 → (vp_in a1 24 ∧ (∀ v1 : Int32, v1 = (x3 - (I 64 (a1).toNatClampNeg)) → (vp_in x3 400 ∧ (∀ I2 : QI, I2 = q_u2 I 68 (x3).toNatClampNeg 0 → (∃ f : Nat, wX8_markAgain_70 a1 a2 (fun u25 I26 => (∀ v27 : Int32, v27 = (u25 + 1) → (wX8_markAgain_2 a1 a2 post n v27 I26))) post f x3 a2 v1 0 I2)))))) ∧ (¬ (I 64 (a1).toNatClampNeg) ≤ x3 → (vp_in x3 400 ∧ (∀ I28 : QI, I28 = q_u2 I 68 (x3).toNatClampNeg 0 → (∃ f : Nat, wX8_markAgain_70 a1 a2 (fun u29 I30 => (∀ v31 : Int32, v31 = (u29 + 1) → (wX8_markAgain_2 a1 a2 post n v31 I30))) post f x3 a2 x3 0 I28))))))) ∧ (¬ (I 64 (a1).toNatClampNeg) ≤ x3 → (vp_in a1 24 ∧ (((I 64 (a1).toNatClampNeg) ≤ x3 → (vp_in a1 24 ∧ (∀ v32 : Int32, v32 = (x3 - (I 64 (a1).toNatClampNeg)) → (vp_in x3 400 ∧ (∀ I33 : QI, I33 = q_u2 I 68 (x3).toNatClampNeg 0 → (∃ f : Nat, wX8_markAgain_70 a1 a2 (fun u34 I35 => (∀ v36 : Int32, v36 = (u34 + 1) → (wX8_markAgain_2 a1 a2 post n v36 I35))) post f x3 a1 v32 0 I33)))))) ∧ (¬ (I 64 (a1).toNatClampNeg) ≤ x3 → (vp_in x3 400 ∧ (∀ I37 : QI, I37 = q_u2 I 68 (x3).toNatClampNeg 0 → (∃ f : Nat, wX8_markAgain_70 a1 a2 (fun u38 I39 => (∀ v40 : Int32, v40 = (u38 + 1) → (wX8_markAgain_2 a1 a2 post n v40 I39))) post f x3 a1 x3 0 I37)))))))))))))
set_option maxRecDepth 100000 in
set_option maxHeartbeats 4000000 in
theorem swX8_markAgain_2 {X : QX} {S : QS} {a1 : Int32} {a2 : Int32} {J : QJ} {post : QI → Prop} (hS : Sh S) : ∀ (f : Nat) (x3 : Int32) (I : QI), wX8_markAgain_2 a1 a2 post f x3 I → V X mX8_markAgain 2 0 0 (q_Pv S (fun I2 J2 => J = J2 ∧ post I2)) 2 [(0, .ref 51), (1, .int a1), (2, .int a2), (3, .int x3)] [] S I J 0 0 := by
  intro f
  induction f with
  | zero => intro x3 I h; exact h.elim
  | succ n ih =>
    intro x3 I h
    replace h : (vp_in a1 24 ∧ (vp_in a2 24 ∧ ((((I 64 (a1).toNatClampNeg) + (I 64 (a2).toNatClampNeg)) ≤ x3 → post I) ∧ (¬ ((I 64 (a1).toNatClampNeg) + (I 64 (a2).toNatClampNeg)) ≤ x3 → (vp_in a1 24 ∧ (((I 64 (a1).toNatClampNeg) ≤ x3 → (vp_in a1 24 ∧ (((I 64 (a1).toNatClampNeg) ≤ x3 → (vp_in a1 24 ∧ (∀ v1 : Int32, v1 = (x3 - (I 64 (a1).toNatClampNeg)) → (vp_in x3 400 ∧ (∀ I2 : QI, I2 = q_u2 I 68 (x3).toNatClampNeg 0 → (∃ f : Nat, wX8_markAgain_70 a1 a2 (fun u25 I26 => (∀ v27 : Int32, v27 = (u25 + 1) → (wX8_markAgain_2 a1 a2 post n v27 I26))) post f x3 a2 v1 0 I2)))))) ∧ (¬ (I 64 (a1).toNatClampNeg) ≤ x3 → (vp_in x3 400 ∧ (∀ I28 : QI, I28 = q_u2 I 68 (x3).toNatClampNeg 0 → (∃ f : Nat, wX8_markAgain_70 a1 a2 (fun u29 I30 => (∀ v31 : Int32, v31 = (u29 + 1) → (wX8_markAgain_2 a1 a2 post n v31 I30))) post f x3 a2 x3 0 I28))))))) ∧ (¬ (I 64 (a1).toNatClampNeg) ≤ x3 → (vp_in a1 24 ∧ (((I 64 (a1).toNatClampNeg) ≤ x3 → (vp_in a1 24 ∧ (∀ v32 : Int32, v32 = (x3 - (I 64 (a1).toNatClampNeg)) → (vp_in x3 400 ∧ (∀ I33 : QI, I33 = q_u2 I 68 (x3).toNatClampNeg 0 → (∃ f : Nat, wX8_markAgain_70 a1 a2 (fun u34 I35 => (∀ v36 : Int32, v36 = (u34 + 1) → (wX8_markAgain_2 a1 a2 post n v36 I35))) post f x3 a1 v32 0 I33)))))) ∧ (¬ (I 64 (a1).toNatClampNeg) ≤ x3 → (vp_in x3 400 ∧ (∀ I37 : QI, I37 = q_u2 I 68 (x3).toNatClampNeg 0 → (∃ f : Nat, wX8_markAgain_70 a1 a2 (fun u38 I39 => (∀ v40 : Int32, v40 = (u38 + 1) → (wX8_markAgain_2 a1 a2 post n v40 I39))) post f x3 a1 x3 0 I37))))))))))))) := h
    refine V_iload_n dX8_markAgain_2 rfl rfl ?_
    refine V_aload_n dX8_markAgain_3 rfl rfl ?_
    refine V_getr dX8_markAgain_4 fl_RX8_51 (hS.n 51 rfl) (hS.k 51 8 rfl) rfl (hS.r 51 18 64 rfl) ?_
    refine V_iload_n dX8_markAgain_7 rfl rfl ?_
    obtain ⟨hb, h⟩ := h
    refine V_iald dX8_markAgain_8 (hS.n 64 rfl) (hS.k 64 9 rfl) (by rw [(hS.z 64 24 rfl)]; exact hb) ?_
    refine V_aload_n dX8_markAgain_9 rfl rfl ?_
    refine V_getr dX8_markAgain_10 fl_RX8_51 (hS.n 51 rfl) (hS.k 51 8 rfl) rfl (hS.r 51 18 64 rfl) ?_
    refine V_iload_n dX8_markAgain_13 rfl rfl ?_
    obtain ⟨hb, h⟩ := h
    refine V_iald dX8_markAgain_14 (hS.n 64 rfl) (hS.k 64 9 rfl) (by rw [(hS.z 64 24 rfl)]; exact hb) ?_
    refine V_iadd dX8_markAgain_15 ?_
    refine V_icmp_ge 160 dX8_markAgain_16 rfl (fun hc => ?_) (fun hc => ?_)
    · replace h := h.1 hc
      exact V_vret dX8_markAgain_160 rfl (by decide) (by decide) ⟨rfl, rfl, rfl, h⟩
    · replace h := h.2 hc
      refine V_iload_n dX8_markAgain_19 rfl rfl ?_
      refine V_aload_n dX8_markAgain_20 rfl rfl ?_
      refine V_getr dX8_markAgain_21 fl_RX8_51 (hS.n 51 rfl) (hS.k 51 8 rfl) rfl (hS.r 51 18 64 rfl) ?_
      refine V_iload_n dX8_markAgain_24 rfl rfl ?_
      obtain ⟨hb, h⟩ := h
      refine V_iald dX8_markAgain_25 (hS.n 64 rfl) (hS.k 64 9 rfl) (by rw [(hS.z 64 24 rfl)]; exact hb) ?_
      refine V_icmp_ge 33 dX8_markAgain_26 rfl (fun hc => ?_) (fun hc => ?_)
      · replace h := h.1 hc
        refine V_iload_n dX8_markAgain_33 rfl rfl ?_
        refine V_istore (lo2 := [(4, .int a2), (0, .ref 51), (1, .int a1), (2, .int a2), (3, .int x3)]) dX8_markAgain_34 (by decide) rfl ?_
        refine V_iload_n dX8_markAgain_36 rfl rfl ?_
        refine V_aload_n dX8_markAgain_37 rfl rfl ?_
        refine V_getr dX8_markAgain_38 fl_RX8_51 (hS.n 51 rfl) (hS.k 51 8 rfl) rfl (hS.r 51 18 64 rfl) ?_
        refine V_iload_n dX8_markAgain_41 rfl rfl ?_
        obtain ⟨hb, h⟩ := h
        refine V_iald dX8_markAgain_42 (hS.n 64 rfl) (hS.k 64 9 rfl) (by rw [(hS.z 64 24 rfl)]; exact hb) ?_
        refine V_icmp_ge 50 dX8_markAgain_43 rfl (fun hc => ?_) (fun hc => ?_)
        · replace h := h.1 hc
          refine V_iload_n dX8_markAgain_50 rfl rfl ?_
          refine V_aload_n dX8_markAgain_51 rfl rfl ?_
          refine V_getr dX8_markAgain_52 fl_RX8_51 (hS.n 51 rfl) (hS.k 51 8 rfl) rfl (hS.r 51 18 64 rfl) ?_
          refine V_iload_n dX8_markAgain_55 rfl rfl ?_
          obtain ⟨hb, h⟩ := h
          refine V_iald dX8_markAgain_56 (hS.n 64 rfl) (hS.k 64 9 rfl) (by rw [(hS.z 64 24 rfl)]; exact hb) ?_
          refine V_isub dX8_markAgain_57 ?_
          refine V_topi (fun v1 e_v1 => ?_)
          replace h := h v1 e_v1
          refine V_istore (lo2 := [(5, .int v1), (4, .int a2), (0, .ref 51), (1, .int a1), (2, .int a2), (3, .int x3)]) dX8_markAgain_58 (by decide) rfl ?_
          refine V_aload_n dX8_markAgain_60 rfl rfl ?_
          refine V_getr dX8_markAgain_61 fl_RX8_65 (hS.n 51 rfl) (hS.k 51 8 rfl) rfl (hS.r 51 22 68 rfl) ?_
          refine V_iload_n dX8_markAgain_64 rfl rfl ?_
          refine V_iconst (v := 0) dX8_markAgain_65 (by decide) ?_
          obtain ⟨hb, h⟩ := h
          refine V_zast dX8_markAgain_66 (hS.n 68 rfl) (hS.k 68 11 rfl) (by rw [(hS.z 68 400 rfl)]; exact hb) (q_vz (by decide)) ?_
          refine V_memI (fun I2 e_I2 => ?_)
          replace h := h I2 e_I2
          refine V_iconst (v := 0) dX8_markAgain_67 (by decide) ?_
          refine V_istore (lo2 := [(6, .int 0), (5, .int v1), (4, .int a2), (0, .ref 51), (1, .int a1), (2, .int a2), (3, .int x3)]) dX8_markAgain_68 (by decide) rfl ?_
          refine V_sub (lo2 := [(0, .ref 51), (1, .int a1), (2, .int a2), (3, .int x3), (4, .int a2), (5, .int v1), (6, .int 0)]) [3, 4, 5, 6, 2, 1, 0] rfl ?_
          obtain ⟨f9, h⟩ := h
          refine swX8_markAgain_70 hS ?_ f9 _ _ _ _ _ h
          · intro u25 I26 h
            obtain ⟨v27, e_v27⟩ : ∃ z : Int32, z = (u25 + 1) := ⟨_, rfl⟩
            replace h := h v27 e_v27
            refine V_iinc (lo2 := [(3, .int v27), (0, .ref 51), (1, .int a1), (2, .int a2)]) 3 dX8_markAgain_154 rfl (v := v27) (by rw [e_v27]; first | done | rfl) (by decide) rfl ?_
            refine V_goto 2 dX8_markAgain_157 rfl ?_
            refine V_sub (lo2 := [(0, .ref 51), (1, .int a1), (2, .int a2), (3, .int v27)]) [1, 2, 3, 0] rfl ?_
            exact ih _ _ h
        · replace h := h.2 hc
          refine V_iload_n dX8_markAgain_46 rfl rfl ?_
          refine V_goto 58 dX8_markAgain_47 rfl ?_
          refine V_istore (lo2 := [(5, .int x3), (4, .int a2), (0, .ref 51), (1, .int a1), (2, .int a2), (3, .int x3)]) dX8_markAgain_58 (by decide) rfl ?_
          refine V_aload_n dX8_markAgain_60 rfl rfl ?_
          refine V_getr dX8_markAgain_61 fl_RX8_65 (hS.n 51 rfl) (hS.k 51 8 rfl) rfl (hS.r 51 22 68 rfl) ?_
          refine V_iload_n dX8_markAgain_64 rfl rfl ?_
          refine V_iconst (v := 0) dX8_markAgain_65 (by decide) ?_
          obtain ⟨hb, h⟩ := h
          refine V_zast dX8_markAgain_66 (hS.n 68 rfl) (hS.k 68 11 rfl) (by rw [(hS.z 68 400 rfl)]; exact hb) (q_vz (by decide)) ?_
          refine V_memI (fun I28 e_I28 => ?_)
          replace h := h I28 e_I28
          refine V_iconst (v := 0) dX8_markAgain_67 (by decide) ?_
          refine V_istore (lo2 := [(6, .int 0), (5, .int x3), (4, .int a2), (0, .ref 51), (1, .int a1), (2, .int a2), (3, .int x3)]) dX8_markAgain_68 (by decide) rfl ?_
          refine V_sub (lo2 := [(0, .ref 51), (1, .int a1), (2, .int a2), (3, .int x3), (4, .int a2), (5, .int x3), (6, .int 0)]) [3, 4, 5, 6, 2, 1, 0] rfl ?_
          obtain ⟨f9, h⟩ := h
          refine swX8_markAgain_70 hS ?_ f9 _ _ _ _ _ h
          · intro u29 I30 h
            obtain ⟨v31, e_v31⟩ : ∃ z : Int32, z = (u29 + 1) := ⟨_, rfl⟩
            replace h := h v31 e_v31
            refine V_iinc (lo2 := [(3, .int v31), (0, .ref 51), (1, .int a1), (2, .int a2)]) 3 dX8_markAgain_154 rfl (v := v31) (by rw [e_v31]; first | done | rfl) (by decide) rfl ?_
            refine V_goto 2 dX8_markAgain_157 rfl ?_
            refine V_sub (lo2 := [(0, .ref 51), (1, .int a1), (2, .int a2), (3, .int v31)]) [1, 2, 3, 0] rfl ?_
            exact ih _ _ h
      · replace h := h.2 hc
        refine V_iload_n dX8_markAgain_29 rfl rfl ?_
        refine V_goto 34 dX8_markAgain_30 rfl ?_
        refine V_istore (lo2 := [(4, .int a1), (0, .ref 51), (1, .int a1), (2, .int a2), (3, .int x3)]) dX8_markAgain_34 (by decide) rfl ?_
        refine V_iload_n dX8_markAgain_36 rfl rfl ?_
        refine V_aload_n dX8_markAgain_37 rfl rfl ?_
        refine V_getr dX8_markAgain_38 fl_RX8_51 (hS.n 51 rfl) (hS.k 51 8 rfl) rfl (hS.r 51 18 64 rfl) ?_
        refine V_iload_n dX8_markAgain_41 rfl rfl ?_
        obtain ⟨hb, h⟩ := h
        refine V_iald dX8_markAgain_42 (hS.n 64 rfl) (hS.k 64 9 rfl) (by rw [(hS.z 64 24 rfl)]; exact hb) ?_
        refine V_icmp_ge 50 dX8_markAgain_43 rfl (fun hc => ?_) (fun hc => ?_)
        · replace h := h.1 hc
          refine V_iload_n dX8_markAgain_50 rfl rfl ?_
          refine V_aload_n dX8_markAgain_51 rfl rfl ?_
          refine V_getr dX8_markAgain_52 fl_RX8_51 (hS.n 51 rfl) (hS.k 51 8 rfl) rfl (hS.r 51 18 64 rfl) ?_
          refine V_iload_n dX8_markAgain_55 rfl rfl ?_
          obtain ⟨hb, h⟩ := h
          refine V_iald dX8_markAgain_56 (hS.n 64 rfl) (hS.k 64 9 rfl) (by rw [(hS.z 64 24 rfl)]; exact hb) ?_
          refine V_isub dX8_markAgain_57 ?_
          refine V_topi (fun v32 e_v32 => ?_)
          replace h := h v32 e_v32
          refine V_istore (lo2 := [(5, .int v32), (4, .int a1), (0, .ref 51), (1, .int a1), (2, .int a2), (3, .int x3)]) dX8_markAgain_58 (by decide) rfl ?_
          refine V_aload_n dX8_markAgain_60 rfl rfl ?_
          refine V_getr dX8_markAgain_61 fl_RX8_65 (hS.n 51 rfl) (hS.k 51 8 rfl) rfl (hS.r 51 22 68 rfl) ?_
          refine V_iload_n dX8_markAgain_64 rfl rfl ?_
          refine V_iconst (v := 0) dX8_markAgain_65 (by decide) ?_
          obtain ⟨hb, h⟩ := h
          refine V_zast dX8_markAgain_66 (hS.n 68 rfl) (hS.k 68 11 rfl) (by rw [(hS.z 68 400 rfl)]; exact hb) (q_vz (by decide)) ?_
          refine V_memI (fun I33 e_I33 => ?_)
          replace h := h I33 e_I33
          refine V_iconst (v := 0) dX8_markAgain_67 (by decide) ?_
          refine V_istore (lo2 := [(6, .int 0), (5, .int v32), (4, .int a1), (0, .ref 51), (1, .int a1), (2, .int a2), (3, .int x3)]) dX8_markAgain_68 (by decide) rfl ?_
          refine V_sub (lo2 := [(0, .ref 51), (1, .int a1), (2, .int a2), (3, .int x3), (4, .int a1), (5, .int v32), (6, .int 0)]) [3, 4, 5, 6, 2, 1, 0] rfl ?_
          obtain ⟨f9, h⟩ := h
          refine swX8_markAgain_70 hS ?_ f9 _ _ _ _ _ h
          · intro u34 I35 h
            obtain ⟨v36, e_v36⟩ : ∃ z : Int32, z = (u34 + 1) := ⟨_, rfl⟩
            replace h := h v36 e_v36
            refine V_iinc (lo2 := [(3, .int v36), (0, .ref 51), (1, .int a1), (2, .int a2)]) 3 dX8_markAgain_154 rfl (v := v36) (by rw [e_v36]; first | done | rfl) (by decide) rfl ?_
            refine V_goto 2 dX8_markAgain_157 rfl ?_
            refine V_sub (lo2 := [(0, .ref 51), (1, .int a1), (2, .int a2), (3, .int v36)]) [1, 2, 3, 0] rfl ?_
            exact ih _ _ h
        · replace h := h.2 hc
          refine V_iload_n dX8_markAgain_46 rfl rfl ?_
          refine V_goto 58 dX8_markAgain_47 rfl ?_
          refine V_istore (lo2 := [(5, .int x3), (4, .int a1), (0, .ref 51), (1, .int a1), (2, .int a2), (3, .int x3)]) dX8_markAgain_58 (by decide) rfl ?_
          refine V_aload_n dX8_markAgain_60 rfl rfl ?_
          refine V_getr dX8_markAgain_61 fl_RX8_65 (hS.n 51 rfl) (hS.k 51 8 rfl) rfl (hS.r 51 22 68 rfl) ?_
          refine V_iload_n dX8_markAgain_64 rfl rfl ?_
          refine V_iconst (v := 0) dX8_markAgain_65 (by decide) ?_
          obtain ⟨hb, h⟩ := h
          refine V_zast dX8_markAgain_66 (hS.n 68 rfl) (hS.k 68 11 rfl) (by rw [(hS.z 68 400 rfl)]; exact hb) (q_vz (by decide)) ?_
          refine V_memI (fun I37 e_I37 => ?_)
          replace h := h I37 e_I37
          refine V_iconst (v := 0) dX8_markAgain_67 (by decide) ?_
          refine V_istore (lo2 := [(6, .int 0), (5, .int x3), (4, .int a1), (0, .ref 51), (1, .int a1), (2, .int a2), (3, .int x3)]) dX8_markAgain_68 (by decide) rfl ?_
          refine V_sub (lo2 := [(0, .ref 51), (1, .int a1), (2, .int a2), (3, .int x3), (4, .int a1), (5, .int x3), (6, .int 0)]) [3, 4, 5, 6, 2, 1, 0] rfl ?_
          obtain ⟨f9, h⟩ := h
          refine swX8_markAgain_70 hS ?_ f9 _ _ _ _ _ h
          · intro u38 I39 h
            obtain ⟨v40, e_v40⟩ : ∃ z : Int32, z = (u38 + 1) := ⟨_, rfl⟩
            replace h := h v40 e_v40
            refine V_iinc (lo2 := [(3, .int v40), (0, .ref 51), (1, .int a1), (2, .int a2)]) 3 dX8_markAgain_154 rfl (v := v40) (by rw [e_v40]; first | done | rfl) (by decide) rfl ?_
            refine V_goto 2 dX8_markAgain_157 rfl ?_
            refine V_sub (lo2 := [(0, .ref 51), (1, .int a1), (2, .int a2), (3, .int v40)]) [1, 2, 3, 0] rfl ?_
            exact ih _ _ h
def wX8_markAgain (a1 : Int32) (a2 : Int32) (I : QI) (post : QI → Prop) : Prop := (∃ f : Nat, wX8_markAgain_2 a1 a2 post f 0 I)
set_option maxRecDepth 100000 in
set_option maxHeartbeats 4000000 in
theorem s_mX8_markAgain {X : QX} {S : QS} {a1 : Int32} {a2 : Int32} {I : QI} {J : QJ} {post : QI → Prop} (hS : Sh S) (h : wX8_markAgain a1 a2 I post) : CX X mX8_markAgain 2 0 0 [.ref 51, .int a1, .int a2] S I J (q_Pv S (fun I2 J2 => J = J2 ∧ post I2)) := by
  refine CX.of (lo := [(0, .ref 51), (1, .int a1), (2, .int a2)]) ok_mX8_markAgain rfl (Nat.le_of_ble_eq_true rfl) rfl ?_
  replace h : (∃ f : Nat, wX8_markAgain_2 a1 a2 post f 0 I) := h
  refine V_iconst (v := 0) dX8_markAgain_0 (by decide) ?_
  refine V_istore_n (lo2 := [(3, .int 0), (0, .ref 51), (1, .int a1), (2, .int a2)]) dX8_markAgain_1 rfl (by decide) rfl ?_
  refine V_sub (lo2 := [(0, .ref 51), (1, .int a1), (2, .int a2), (3, .int 0)]) [1, 2, 3, 0] rfl ?_
  obtain ⟨f9, h⟩ := h
  refine swX8_markAgain_2 hS f9 _ _ h
def wX8_takeAway_23 (a1 : Int32) (a2 : Int32) (K62 : Int32 → Int32 → QI → Prop) (post : QI → Prop) : Nat → Int32 → Int32 → QI → Prop
  | 0, _, _, _ => False
  | n + 1, x3, x4, I => (vp_in a1 24 ∧ (((I 64 (a1).toNatClampNeg) ≤ x4 → (K62 x3 x4 I)) ∧ (¬ (I 64 (a1).toNatClampNeg) ≤ x4 → (vp_in x4 400 ∧ ((¬ (I 68 (x4).toNatClampNeg) = 0 → (∀ v2 : Int32, v2 = (x4 + 1) → (wX8_takeAway_23 a1 a2 K62 post n x3 v2 I))) ∧ ((I 68 (x4).toNatClampNeg) = 0 → (wX8_areSame a1 x4 a2 x3 I (fun r3 => ((¬ r3 = 0 → (K62 x3 x4 I)) ∧ (r3 = 0 → (∀ v4 : Int32, v4 = (x4 + 1) → (wX8_takeAway_23 a1 a2 K62 post n x3 v4 I))))))))))))
set_option maxRecDepth 100000 in
set_option maxHeartbeats 4000000 in
theorem swX8_takeAway_23 {X : QX} {S : QS} {a1 : Int32} {a2 : Int32} {J : QJ} {K62 : Int32 → Int32 → QI → Prop} {post : QI → Prop} (hS : Sh S) (hK62 : ∀ (z3 : Int32) (z4 : Int32) (I : QI), K62 z3 z4 I → V X mX8_takeAway 2 0 0 (q_Pv S (fun I2 J2 => J = J2 ∧ post I2)) 62 [(0, .ref 51), (1, .int a1), (2, .int a2), (3, .int z3), (4, .int z4)] [] S I J 0 0) : ∀ (f : Nat) (x3 : Int32) (x4 : Int32) (I : QI), wX8_takeAway_23 a1 a2 K62 post f x3 x4 I → V X mX8_takeAway 2 0 0 (q_Pv S (fun I2 J2 => J = J2 ∧ post I2)) 23 [(0, .ref 51), (1, .int a1), (2, .int a2), (3, .int x3), (4, .int x4)] [] S I J 0 0 := by
  intro f
  induction f with
  | zero => intro x3 x4 I h; exact h.elim
  | succ n ih =>
    intro x3 x4 I h
    replace h : (vp_in a1 24 ∧ (((I 64 (a1).toNatClampNeg) ≤ x4 → (K62 x3 x4 I)) ∧ (¬ (I 64 (a1).toNatClampNeg) ≤ x4 → (vp_in x4 400 ∧ ((¬ (I 68 (x4).toNatClampNeg) = 0 → (∀ v2 : Int32, v2 = (x4 + 1) → (wX8_takeAway_23 a1 a2 K62 post n x3 v2 I))) ∧ ((I 68 (x4).toNatClampNeg) = 0 → (wX8_areSame a1 x4 a2 x3 I (fun r3 => ((¬ r3 = 0 → (K62 x3 x4 I)) ∧ (r3 = 0 → (∀ v4 : Int32, v4 = (x4 + 1) → (wX8_takeAway_23 a1 a2 K62 post n x3 v4 I)))))))))))) := h
    refine V_iload dX8_takeAway_23 rfl ?_
    refine V_aload_n dX8_takeAway_25 rfl rfl ?_
    refine V_getr dX8_takeAway_26 fl_RX8_51 (hS.n 51 rfl) (hS.k 51 8 rfl) rfl (hS.r 51 18 64 rfl) ?_
    refine V_iload_n dX8_takeAway_29 rfl rfl ?_
    obtain ⟨hb, h⟩ := h
    refine V_iald dX8_takeAway_30 (hS.n 64 rfl) (hS.k 64 9 rfl) (by rw [(hS.z 64 24 rfl)]; exact hb) ?_
    refine V_icmp_ge 62 dX8_takeAway_31 rfl (fun hc => ?_) (fun hc => ?_)
    · replace h := h.1 hc
      exact hK62 _ _ _ h
    · replace h := h.2 hc
      refine V_aload_n dX8_takeAway_34 rfl rfl ?_
      refine V_getr dX8_takeAway_35 fl_RX8_65 (hS.n 51 rfl) (hS.k 51 8 rfl) rfl (hS.r 51 22 68 rfl) ?_
      refine V_iload dX8_takeAway_38 rfl ?_
      obtain ⟨hb, h⟩ := h
      refine V_zald dX8_takeAway_40 (hS.n 68 rfl) (hS.k 68 11 rfl) (by rw [(hS.z 68 400 rfl)]; exact hb) ?_
      refine V_if_ne 56 dX8_takeAway_41 rfl (fun hc => ?_) (fun hc => ?_)
      · replace h := h.1 hc
        obtain ⟨v2, e_v2⟩ : ∃ z : Int32, z = (x4 + 1) := ⟨_, rfl⟩
        replace h := h v2 e_v2
        refine V_iinc (lo2 := [(4, .int v2), (0, .ref 51), (1, .int a1), (2, .int a2), (3, .int x3)]) 4 dX8_takeAway_56 rfl (v := v2) (by rw [e_v2]; first | done | rfl) (by decide) rfl ?_
        refine V_goto 23 dX8_takeAway_59 rfl ?_
        refine V_sub (lo2 := [(0, .ref 51), (1, .int a1), (2, .int a2), (3, .int x3), (4, .int v2)]) [1, 2, 3, 4, 0] rfl ?_
        exact ih _ _ _ h
      · replace h := h.2 hc
        refine V_aload_n dX8_takeAway_44 rfl rfl ?_
        refine V_iload_n dX8_takeAway_45 rfl rfl ?_
        refine V_iload dX8_takeAway_46 rfl ?_
        refine V_iload_n dX8_takeAway_48 rfl rfl ?_
        refine V_iload_n dX8_takeAway_49 rfl rfl ?_
        refine V_callVi (st := []) [.int a1, .int x4, .int a2, .int x3] dX8_takeAway_50 ok_mX8_areSame rfl ml_RX8_172 in_mX8_areSame se_mX8_areSame (hS.n 51 rfl) (hS.k 51 8 rfl) (by decide) rfl (Nat.le_of_ble_eq_true rfl) (by decide) (by decide) (by decide) (s_mX8_areSame hS h) (fun r3 I9 J9 h => ?_)
        obtain ⟨rfl, rfl, h⟩ := h
        refine V_if_ne 62 dX8_takeAway_53 rfl (fun hc => ?_) (fun hc => ?_)
        · replace h := h.1 hc
          exact hK62 _ _ _ h
        · replace h := h.2 hc
          obtain ⟨v4, e_v4⟩ : ∃ z : Int32, z = (x4 + 1) := ⟨_, rfl⟩
          replace h := h v4 e_v4
          refine V_iinc (lo2 := [(4, .int v4), (0, .ref 51), (1, .int a1), (2, .int a2), (3, .int x3)]) 4 dX8_takeAway_56 rfl (v := v4) (by rw [e_v4]; first | done | rfl) (by decide) rfl ?_
          refine V_goto 23 dX8_takeAway_59 rfl ?_
          refine V_sub (lo2 := [(0, .ref 51), (1, .int a1), (2, .int a2), (3, .int x3), (4, .int v4)]) [1, 2, 3, 4, 0] rfl ?_
          exact ih _ _ _ h
def wX8_takeAway_10 (a1 : Int32) (a2 : Int32) (post : QI → Prop) : Nat → Int32 → QI → Prop
  | 0, _, _ => False
  | n + 1, x3, I => (vp_in a2 24 ∧ (((I 64 (a2).toNatClampNeg) ≤ x3 → post I) ∧ (¬ (I 64 (a2).toNatClampNeg) ≤ x3 → (∃ f : Nat, wX8_takeAway_23 a1 a2 (fun u5 u6 I7 => (vp_in u6 400 ∧ ((¬ (I7 68 (u6).toNatClampNeg) = 0 → (vp_in u6 400 ∧ (∀ I8 : QI, I8 = q_u2 I7 68 (u6).toNatClampNeg 1 → (∀ v9 : Int32, v9 = (u5 + 1) → (wX8_takeAway_10 a1 a2 post n v9 I8))))) ∧ ((I7 68 (u6).toNatClampNeg) = 0 → (vp_in a1 24 ∧ (((I7 64 (a1).toNatClampNeg) ≤ u6 → (vp_in u6 400 ∧ (∀ I10 : QI, I10 = q_u2 I7 68 (u6).toNatClampNeg 0 → (∀ v11 : Int32, v11 = (u5 + 1) → (wX8_takeAway_10 a1 a2 post n v11 I10))))) ∧ (¬ (I7 64 (a1).toNatClampNeg) ≤ u6 → (vp_in u6 400 ∧ (∀ I12 : QI, I12 = q_u2 I7 68 (u6).toNatClampNeg 1 → (∀ v13 : Int32, v13 = (u5 + 1) → (wX8_takeAway_10 a1 a2 post n v13 I12))))))))))) post f x3 0 I))))
set_option maxRecDepth 100000 in
set_option maxHeartbeats 4000000 in
theorem swX8_takeAway_10 {X : QX} {S : QS} {a1 : Int32} {a2 : Int32} {J : QJ} {post : QI → Prop} (hS : Sh S) : ∀ (f : Nat) (x3 : Int32) (I : QI), wX8_takeAway_10 a1 a2 post f x3 I → V X mX8_takeAway 2 0 0 (q_Pv S (fun I2 J2 => J = J2 ∧ post I2)) 10 [(0, .ref 51), (1, .int a1), (2, .int a2), (3, .int x3)] [] S I J 0 0 := by
  intro f
  induction f with
  | zero => intro x3 I h; exact h.elim
  | succ n ih =>
    intro x3 I h
    replace h : (vp_in a2 24 ∧ (((I 64 (a2).toNatClampNeg) ≤ x3 → post I) ∧ (¬ (I 64 (a2).toNatClampNeg) ≤ x3 → (∃ f : Nat, wX8_takeAway_23 a1 a2 (fun u5 u6 I7 => (vp_in u6 400 ∧ ((¬ (I7 68 (u6).toNatClampNeg) = 0 → (vp_in u6 400 ∧ (∀ I8 : QI, I8 = q_u2 I7 68 (u6).toNatClampNeg 1 → (∀ v9 : Int32, v9 = (u5 + 1) → (wX8_takeAway_10 a1 a2 post n v9 I8))))) ∧ ((I7 68 (u6).toNatClampNeg) = 0 → (vp_in a1 24 ∧ (((I7 64 (a1).toNatClampNeg) ≤ u6 → (vp_in u6 400 ∧ (∀ I10 : QI, I10 = q_u2 I7 68 (u6).toNatClampNeg 0 → (∀ v11 : Int32, v11 = (u5 + 1) → (wX8_takeAway_10 a1 a2 post n v11 I10))))) ∧ (¬ (I7 64 (a1).toNatClampNeg) ≤ u6 → (vp_in u6 400 ∧ (∀ I12 : QI, I12 = q_u2 I7 68 (u6).toNatClampNeg 1 → (∀ v13 : Int32, v13 = (u5 + 1) → (wX8_takeAway_10 a1 a2 post n v13 I12))))))))))) post f x3 0 I)))) := h
    refine V_iload_n dX8_takeAway_10 rfl rfl ?_
    refine V_aload_n dX8_takeAway_11 rfl rfl ?_
    refine V_getr dX8_takeAway_12 fl_RX8_51 (hS.n 51 rfl) (hS.k 51 8 rfl) rfl (hS.r 51 18 64 rfl) ?_
    refine V_iload_n dX8_takeAway_15 rfl rfl ?_
    obtain ⟨hb, h⟩ := h
    refine V_iald dX8_takeAway_16 (hS.n 64 rfl) (hS.k 64 9 rfl) (by rw [(hS.z 64 24 rfl)]; exact hb) ?_
    refine V_icmp_ge 101 dX8_takeAway_17 rfl (fun hc => ?_) (fun hc => ?_)
    · replace h := h.1 hc
      exact V_vret dX8_takeAway_101 rfl (by decide) (by decide) ⟨rfl, rfl, rfl, h⟩
    · replace h := h.2 hc
      refine V_iconst (v := 0) dX8_takeAway_20 (by decide) ?_
      refine V_istore (lo2 := [(4, .int 0), (0, .ref 51), (1, .int a1), (2, .int a2), (3, .int x3)]) dX8_takeAway_21 (by decide) rfl ?_
      refine V_sub (lo2 := [(0, .ref 51), (1, .int a1), (2, .int a2), (3, .int x3), (4, .int 0)]) [1, 2, 3, 4, 0] rfl ?_
      obtain ⟨f9, h⟩ := h
      refine swX8_takeAway_23 hS ?_ f9 _ _ _ h
      · intro u5 u6 I7 h
        refine V_aload_n dX8_takeAway_62 rfl rfl ?_
        refine V_getr dX8_takeAway_63 fl_RX8_65 (hS.n 51 rfl) (hS.k 51 8 rfl) rfl (hS.r 51 22 68 rfl) ?_
        refine V_iload dX8_takeAway_66 rfl ?_
        refine V_aload_n dX8_takeAway_68 rfl rfl ?_
        refine V_getr dX8_takeAway_69 fl_RX8_65 (hS.n 51 rfl) (hS.k 51 8 rfl) rfl (hS.r 51 22 68 rfl) ?_
        refine V_iload dX8_takeAway_72 rfl ?_
        obtain ⟨hb, h⟩ := h
        refine V_zald dX8_takeAway_74 (hS.n 68 rfl) (hS.k 68 11 rfl) (by rw [(hS.z 68 400 rfl)]; exact hb) ?_
        refine V_if_ne 89 dX8_takeAway_75 rfl (fun hc => ?_) (fun hc => ?_)
        · replace h := h.1 hc
          refine V_iconst (v := 1) dX8_takeAway_89 (by decide) ?_
          refine V_goto 94 dX8_takeAway_90 rfl ?_
          obtain ⟨hb, h⟩ := h
          refine V_zast dX8_takeAway_94 (hS.n 68 rfl) (hS.k 68 11 rfl) (by rw [(hS.z 68 400 rfl)]; exact hb) (q_vz (by decide)) ?_
          refine V_memI (fun I8 e_I8 => ?_)
          replace h := h I8 e_I8
          obtain ⟨v9, e_v9⟩ : ∃ z : Int32, z = (u5 + 1) := ⟨_, rfl⟩
          replace h := h v9 e_v9
          refine V_iinc (lo2 := [(3, .int v9), (0, .ref 51), (1, .int a1), (2, .int a2), (4, .int u6)]) 3 dX8_takeAway_95 rfl (v := v9) (by rw [e_v9]; first | done | rfl) (by decide) rfl ?_
          refine V_goto 10 dX8_takeAway_98 rfl ?_
          refine V_sub (lo2 := [(0, .ref 51), (1, .int a1), (2, .int a2), (3, .int v9)]) [1, 2, 3, 0] rfl ?_
          exact ih _ _ h
        · replace h := h.2 hc
          refine V_iload dX8_takeAway_78 rfl ?_
          refine V_aload_n dX8_takeAway_80 rfl rfl ?_
          refine V_getr dX8_takeAway_81 fl_RX8_51 (hS.n 51 rfl) (hS.k 51 8 rfl) rfl (hS.r 51 18 64 rfl) ?_
          refine V_iload_n dX8_takeAway_84 rfl rfl ?_
          obtain ⟨hb, h⟩ := h
          refine V_iald dX8_takeAway_85 (hS.n 64 rfl) (hS.k 64 9 rfl) (by rw [(hS.z 64 24 rfl)]; exact hb) ?_
          refine V_icmp_ge 93 dX8_takeAway_86 rfl (fun hc => ?_) (fun hc => ?_)
          · replace h := h.1 hc
            refine V_iconst (v := 0) dX8_takeAway_93 (by decide) ?_
            obtain ⟨hb, h⟩ := h
            refine V_zast dX8_takeAway_94 (hS.n 68 rfl) (hS.k 68 11 rfl) (by rw [(hS.z 68 400 rfl)]; exact hb) (q_vz (by decide)) ?_
            refine V_memI (fun I10 e_I10 => ?_)
            replace h := h I10 e_I10
            obtain ⟨v11, e_v11⟩ : ∃ z : Int32, z = (u5 + 1) := ⟨_, rfl⟩
            replace h := h v11 e_v11
            refine V_iinc (lo2 := [(3, .int v11), (0, .ref 51), (1, .int a1), (2, .int a2), (4, .int u6)]) 3 dX8_takeAway_95 rfl (v := v11) (by rw [e_v11]; first | done | rfl) (by decide) rfl ?_
            refine V_goto 10 dX8_takeAway_98 rfl ?_
            refine V_sub (lo2 := [(0, .ref 51), (1, .int a1), (2, .int a2), (3, .int v11)]) [1, 2, 3, 0] rfl ?_
            exact ih _ _ h
          · replace h := h.2 hc
            refine V_iconst (v := 1) dX8_takeAway_89 (by decide) ?_
            refine V_goto 94 dX8_takeAway_90 rfl ?_
            obtain ⟨hb, h⟩ := h
            refine V_zast dX8_takeAway_94 (hS.n 68 rfl) (hS.k 68 11 rfl) (by rw [(hS.z 68 400 rfl)]; exact hb) (q_vz (by decide)) ?_
            refine V_memI (fun I12 e_I12 => ?_)
            replace h := h I12 e_I12
            obtain ⟨v13, e_v13⟩ : ∃ z : Int32, z = (u5 + 1) := ⟨_, rfl⟩
            replace h := h v13 e_v13
            refine V_iinc (lo2 := [(3, .int v13), (0, .ref 51), (1, .int a1), (2, .int a2), (4, .int u6)]) 3 dX8_takeAway_95 rfl (v := v13) (by rw [e_v13]; first | done | rfl) (by decide) rfl ?_
            refine V_goto 10 dX8_takeAway_98 rfl ?_
            refine V_sub (lo2 := [(0, .ref 51), (1, .int a1), (2, .int a2), (3, .int v13)]) [1, 2, 3, 0] rfl ?_
            exact ih _ _ h
def wX8_takeAway (a1 : Int32) (a2 : Int32) (I : QI) (post : QI → Prop) : Prop := (wJ7_fill 68 400 0 I (fun I1 => (∃ f : Nat, wX8_takeAway_10 a1 a2 post f 0 I1)))
set_option maxRecDepth 100000 in
set_option maxHeartbeats 4000000 in
theorem s_mX8_takeAway {X : QX} {S : QS} {a1 : Int32} {a2 : Int32} {I : QI} {J : QJ} {post : QI → Prop} (hS : Sh S) (h : wX8_takeAway a1 a2 I post) : CX X mX8_takeAway 2 0 0 [.ref 51, .int a1, .int a2] S I J (q_Pv S (fun I2 J2 => J = J2 ∧ post I2)) := by
  refine CX.of (lo := [(0, .ref 51), (1, .int a1), (2, .int a2)]) ok_mX8_takeAway rfl (Nat.le_of_ble_eq_true rfl) rfl ?_
  replace h : (wJ7_fill 68 400 0 I (fun I1 => (∃ f : Nat, wX8_takeAway_10 a1 a2 post f 0 I1))) := h
  refine V_aload_n dX8_takeAway_0 rfl rfl ?_
  refine V_getr dX8_takeAway_1 fl_RX8_65 (hS.n 51 rfl) (hS.k 51 8 rfl) rfl (hS.r 51 22 68 rfl) ?_
  refine V_iconst (v := 0) dX8_takeAway_4 (by decide) ?_
  refine V_callSv (st := []) [.ref 68, .int 0] dX8_takeAway_5 ok_mJ7_fill_49daa rfl ml_RX8_166 st_mJ7_fill_49daa (Nat.le_of_ble_eq_true rfl) (by decide) (by decide) (by decide) (s_mJ7_fill (hS.n 68 rfl) (hS.k 68 11 rfl) (hS.z 68 400 rfl) (by decide) h) (fun I1 J9 h => ?_)
  obtain ⟨rfl, h⟩ := h
  refine V_iconst (v := 0) dX8_takeAway_8 (by decide) ?_
  refine V_istore_n (lo2 := [(3, .int 0), (0, .ref 51), (1, .int a1), (2, .int a2)]) dX8_takeAway_9 rfl (by decide) rfl ?_
  refine V_sub (lo2 := [(0, .ref 51), (1, .int a1), (2, .int a2), (3, .int 0)]) [1, 2, 3, 0] rfl ?_
  obtain ⟨f9, h⟩ := h
  refine swX8_takeAway_10 hS f9 _ _ h
