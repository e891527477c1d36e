def wX3_empty (a1 : Int32) (I : QI) (post : QI → Prop) : Prop := ((a1 < 0 → post I) ∧ (¬ a1 < 0 → ((25 ≤ a1 → post I) ∧ (¬ 25 ≤ a1 → (vp_in a1 25 ∧ (∀ I1 : QI, I1 = q_u2 I 32 (a1).toNatClampNeg 0 → post I1))))))
set_option maxRecDepth 100000 in
set_option maxHeartbeats 4000000 in
theorem s_mX3_empty {X : QX} {S : QS} {a1 : Int32} {I : QI} {J : QJ} {post : QI → Prop} (hS : Sh S) (h : wX3_empty a1 I post) : CX X mX3_empty 0 0 0 [.ref 30, .int a1] S I J (q_Pv S (fun I2 J2 => J = J2 ∧ post I2)) := by
  refine CX.of (lo := [(0, .ref 30), (1, .int a1)]) ok_mX3_empty rfl (Nat.le_of_ble_eq_true rfl) rfl ?_
  replace h : ((a1 < 0 → post I) ∧ (¬ a1 < 0 → ((25 ≤ a1 → post I) ∧ (¬ 25 ≤ a1 → (vp_in a1 25 ∧ (∀ I1 : QI, I1 = q_u2 I 32 (a1).toNatClampNeg 0 → post I1)))))) := h
  refine V_iload_n dX3_empty_0 rfl rfl ?_
  refine V_if_lt 17 dX3_empty_1 rfl (fun hc => ?_) (fun hc => ?_)
  · replace h := h.1 hc
    exact V_vret dX3_empty_17 rfl (by decide) (by decide) ⟨rfl, rfl, rfl, h⟩
  · replace h := h.2 hc
    refine V_iload_n dX3_empty_4 rfl rfl ?_
    refine V_bipush (v := 25) dX3_empty_5 (by decide) ?_
    refine V_icmp_ge 17 dX3_empty_7 rfl (fun hc => ?_) (fun hc => ?_)
    · replace h := h.1 hc
      exact V_vret dX3_empty_17 rfl (by decide) (by decide) ⟨rfl, rfl, rfl, h⟩
    · replace h := h.2 hc
      refine V_aload_n dX3_empty_10 rfl rfl ?_
      refine V_getr dX3_empty_11 fl_RX3_19 (hS.n 30 rfl) (hS.k 30 3 rfl) rfl (hS.r 30 2 32 rfl) ?_
      refine V_iload_n dX3_empty_14 rfl rfl ?_
      refine V_iconst (v := 0) dX3_empty_15 (by decide) ?_
      obtain ⟨hb, h⟩ := h
      refine V_iast dX3_empty_16 (hS.n 32 rfl) (hS.k 32 9 rfl) (by rw [(hS.z 32 25 rfl)]; exact hb) ?_
      refine V_memI (fun I1 e_I1 => ?_)
      replace h := h I1 e_I1
      exact V_vret dX3_empty_17 rfl (by decide) (by decide) ⟨rfl, rfl, rfl, h⟩
def wX3_lengthOf (a1 : Int32) (I : QI) (post : Int32 → Prop) : Prop := ((a1 < 0 → post 0) ∧ (¬ a1 < 0 → ((25 ≤ a1 → post 0) ∧ (¬ 25 ≤ a1 → (vp_in a1 25 ∧ post (I 32 (a1).toNatClampNeg))))))
set_option maxRecDepth 100000 in
set_option maxHeartbeats 4000000 in
theorem s_mX3_lengthOf {X : QX} {S : QS} {a1 : Int32} {I : QI} {J : QJ} {post : Int32 → Prop} (hS : Sh S) (h : wX3_lengthOf a1 I post) : CX X mX3_lengthOf 0 0 0 [.ref 30, .int a1] S I J (q_Pi S (fun r I2 J2 => I = I2 ∧ J = J2 ∧ post r)) := by
  refine CX.of (lo := [(0, .ref 30), (1, .int a1)]) ok_mX3_lengthOf rfl (Nat.le_of_ble_eq_true rfl) rfl ?_
  replace h : ((a1 < 0 → post 0) ∧ (¬ a1 < 0 → ((25 ≤ a1 → post 0) ∧ (¬ 25 ≤ a1 → (vp_in a1 25 ∧ post (I 32 (a1).toNatClampNeg)))))) := h
  refine V_iload_n dX3_lengthOf_0 rfl rfl ?_
  refine V_if_lt 19 dX3_lengthOf_1 rfl (fun hc => ?_) (fun hc => ?_)
  · replace h := h.1 hc
    refine V_iconst (v := 0) dX3_lengthOf_19 (by decide) ?_
    exact V_iret dX3_lengthOf_20 rfl (by decide) (by decide) ⟨_, rfl, rfl, rfl, rfl, h⟩
  · replace h := h.2 hc
    refine V_iload_n dX3_lengthOf_4 rfl rfl ?_
    refine V_bipush (v := 25) dX3_lengthOf_5 (by decide) ?_
    refine V_icmp_ge 19 dX3_lengthOf_7 rfl (fun hc => ?_) (fun hc => ?_)
    · replace h := h.1 hc
      refine V_iconst (v := 0) dX3_lengthOf_19 (by decide) ?_
      exact V_iret dX3_lengthOf_20 rfl (by decide) (by decide) ⟨_, rfl, rfl, rfl, rfl, h⟩
    · replace h := h.2 hc
      refine V_aload_n dX3_lengthOf_10 rfl rfl ?_
      refine V_getr dX3_lengthOf_11 fl_RX3_19 (hS.n 30 rfl) (hS.k 30 3 rfl) rfl (hS.r 30 2 32 rfl) ?_
      refine V_iload_n dX3_lengthOf_14 rfl rfl ?_
      obtain ⟨hb, h⟩ := h
      refine V_iald dX3_lengthOf_15 (hS.n 32 rfl) (hS.k 32 9 rfl) (by rw [(hS.z 32 25 rfl)]; exact hb) ?_
      refine V_goto 20 dX3_lengthOf_16 rfl ?_
      exact V_iret dX3_lengthOf_20 rfl (by decide) (by decide) ⟨_, rfl, rfl, rfl, rfl, h⟩
def wX3_codeAt (a1 : Int32) (a2 : Int32) (I : QI) (post : Int32 → Prop) : Prop := ((a2 < 0 → post 0) ∧ (¬ a2 < 0 → (wX3_lengthOf a1 I (fun r1 => ((r1 ≤ a2 → post 0) ∧ (¬ r1 ≤ a2 → ((24 ≤ a2 → post 0) ∧ (¬ 24 ≤ a2 → (vp_in ((a1 * 24) + a2) 600 ∧ post (I 31 (((a1 * 24) + a2)).toNatClampNeg))))))))))
set_option maxRecDepth 100000 in
set_option maxHeartbeats 4000000 in
theorem s_mX3_codeAt {X : QX} {S : QS} {a1 : Int32} {a2 : Int32} {I : QI} {J : QJ} {post : Int32 → Prop} (hS : Sh S) (h : wX3_codeAt a1 a2 I post) : CX X mX3_codeAt 1 0 0 [.ref 30, .int a1, .int a2] S I J (q_Pi S (fun r I2 J2 => I = I2 ∧ J = J2 ∧ post r)) := by
  refine CX.of (lo := [(0, .ref 30), (1, .int a1), (2, .int a2)]) ok_mX3_codeAt rfl (Nat.le_of_ble_eq_true rfl) rfl ?_
  replace h : ((a2 < 0 → post 0) ∧ (¬ a2 < 0 → (wX3_lengthOf a1 I (fun r1 => ((r1 ≤ a2 → post 0) ∧ (¬ r1 ≤ a2 → ((24 ≤ a2 → post 0) ∧ (¬ 24 ≤ a2 → (vp_in ((a1 * 24) + a2) 600 ∧ post (I 31 (((a1 * 24) + a2)).toNatClampNeg)))))))))) := h
  refine V_iload_n dX3_codeAt_0 rfl rfl ?_
  refine V_if_lt 33 dX3_codeAt_1 rfl (fun hc => ?_) (fun hc => ?_)
  · replace h := h.1 hc
    refine V_iconst (v := 0) dX3_codeAt_33 (by decide) ?_
    exact V_iret dX3_codeAt_34 rfl (by decide) (by decide) ⟨_, rfl, rfl, rfl, rfl, h⟩
  · replace h := h.2 hc
    refine V_iload_n dX3_codeAt_4 rfl rfl ?_
    refine V_aload_n dX3_codeAt_5 rfl rfl ?_
    refine V_iload_n dX3_codeAt_6 rfl rfl ?_
    refine V_callVi (st := [.int a2]) [.int a1] dX3_codeAt_7 ok_mX3_lengthOf rfl ml_RX3_92 in_mX3_lengthOf se_mX3_lengthOf (hS.n 30 rfl) (hS.k 30 3 rfl) (by decide) rfl (Nat.le_of_ble_eq_true rfl) (by decide) (by decide) (by decide) (s_mX3_lengthOf hS h) (fun r1 I9 J9 h => ?_)
    obtain ⟨rfl, rfl, h⟩ := h
    refine V_icmp_ge 33 dX3_codeAt_10 rfl (fun hc => ?_) (fun hc => ?_)
    · replace h := h.1 hc
      refine V_iconst (v := 0) dX3_codeAt_33 (by decide) ?_
      exact V_iret dX3_codeAt_34 rfl (by decide) (by decide) ⟨_, rfl, rfl, rfl, rfl, h⟩
    · replace h := h.2 hc
      refine V_iload_n dX3_codeAt_13 rfl rfl ?_
      refine V_bipush (v := 24) dX3_codeAt_14 (by decide) ?_
      refine V_icmp_ge 33 dX3_codeAt_16 rfl (fun hc => ?_) (fun hc => ?_)
      · replace h := h.1 hc
        refine V_iconst (v := 0) dX3_codeAt_33 (by decide) ?_
        exact V_iret dX3_codeAt_34 rfl (by decide) (by decide) ⟨_, rfl, rfl, rfl, rfl, h⟩
      · replace h := h.2 hc
        refine V_aload_n dX3_codeAt_19 rfl rfl ?_
        refine V_getr dX3_codeAt_20 fl_RX3_15 (hS.n 30 rfl) (hS.k 30 3 rfl) rfl (hS.r 30 1 31 rfl) ?_
        refine V_iload_n dX3_codeAt_23 rfl rfl ?_
        refine V_bipush (v := 24) dX3_codeAt_24 (by decide) ?_
        refine V_imul dX3_codeAt_26 ?_
        refine V_iload_n dX3_codeAt_27 rfl rfl ?_
        refine V_iadd dX3_codeAt_28 ?_
        obtain ⟨hb, h⟩ := h
        refine V_iald dX3_codeAt_29 (hS.n 31 rfl) (hS.k 31 9 rfl) (by rw [(hS.z 31 600 rfl)]; exact hb) ?_
        refine V_goto 34 dX3_codeAt_30 rfl ?_
        exact V_iret dX3_codeAt_34 rfl (by decide) (by decide) ⟨_, rfl, rfl, rfl, rfl, h⟩
def wX3_isSeenAt_29 (a1 : Int32) (a2 : Int32) (I : QI) (post : Int32 → Prop) : Nat → Int32 → Prop
  | 0, _ => False
  | n + 1, x3 => (wX3_lengthOf a2 I (fun r2 => ((r2 ≤ x3 → post 1) ∧ (¬ r2 ≤ x3 → ((24 ≤ x3 → post 1) ∧ (¬ 24 ≤ x3 → (vp_in ((a1 * 24) + x3) 6144 ∧ (wX3_codeAt a2 x3 I (fun r3 => (((I 35 (((a1 * 24) + x3)).toNatClampNeg) = r3 → (∀ v4 : Int32, v4 = (x3 + 1) → (wX3_isSeenAt_29 a1 a2 I post n v4))) ∧ (¬ (I 35 (((a1 * 24) + x3)).toNatClampNeg) = r3 → post 0)))))))))))
set_option maxRecDepth 100000 in
set_option maxHeartbeats 4000000 in
theorem swX3_isSeenAt_29 {X : QX} {S : QS} {a1 : Int32} {a2 : Int32} {I : QI} {J : QJ} {post : Int32 → Prop} (hS : Sh S) : ∀ (f : Nat) (x3 : Int32), wX3_isSeenAt_29 a1 a2 I post f x3 → V X mX3_isSeenAt 2 0 0 (q_Pi S (fun r I2 J2 => I = I2 ∧ J = J2 ∧ post r)) 29 [(0, .ref 30), (1, .int a1), (2, .int a2), (3, .int x3)] [] S I J 0 0 := by
  intro f
  induction f with
  | zero => intro x3 h; exact h.elim
  | succ n ih =>
    intro x3 h
    replace h : (wX3_lengthOf a2 I (fun r2 => ((r2 ≤ x3 → post 1) ∧ (¬ r2 ≤ x3 → ((24 ≤ x3 → post 1) ∧ (¬ 24 ≤ x3 → (vp_in ((a1 * 24) + x3) 6144 ∧ (wX3_codeAt a2 x3 I (fun r3 => (((I 35 (((a1 * 24) + x3)).toNatClampNeg) = r3 → (∀ v4 : Int32, v4 = (x3 + 1) → (wX3_isSeenAt_29 a1 a2 I post n v4))) ∧ (¬ (I 35 (((a1 * 24) + x3)).toNatClampNeg) = r3 → post 0))))))))))) := h
    refine V_iload_n dX3_isSeenAt_29 rfl rfl ?_
    refine V_aload_n dX3_isSeenAt_30 rfl rfl ?_
    refine V_iload_n dX3_isSeenAt_31 rfl rfl ?_
    refine V_callVi (st := [.int x3]) [.int a2] dX3_isSeenAt_32 ok_mX3_lengthOf rfl ml_RX3_92 in_mX3_lengthOf se_mX3_lengthOf (hS.n 30 rfl) (hS.k 30 3 rfl) (by decide) rfl (Nat.le_of_ble_eq_true rfl) (by decide) (by decide) (by decide) (s_mX3_lengthOf hS h) (fun r2 I9 J9 h => ?_)
    obtain ⟨rfl, rfl, h⟩ := h
    refine V_icmp_ge 72 dX3_isSeenAt_35 rfl (fun hc => ?_) (fun hc => ?_)
    · replace h := h.1 hc
      refine V_iconst (v := 1) dX3_isSeenAt_72 (by decide) ?_
      exact V_zret dX3_isSeenAt_73 rfl (by decide) (by decide) (by decide) ⟨_, rfl, rfl, rfl, rfl, h⟩
    · replace h := h.2 hc
      refine V_iload_n dX3_isSeenAt_38 rfl rfl ?_
      refine V_bipush (v := 24) dX3_isSeenAt_39 (by decide) ?_
      refine V_icmp_ge 72 dX3_isSeenAt_41 rfl (fun hc => ?_) (fun hc => ?_)
      · replace h := h.1 hc
        refine V_iconst (v := 1) dX3_isSeenAt_72 (by decide) ?_
        exact V_zret dX3_isSeenAt_73 rfl (by decide) (by decide) (by decide) ⟨_, rfl, rfl, rfl, rfl, h⟩
      · replace h := h.2 hc
        refine V_aload_n dX3_isSeenAt_44 rfl rfl ?_
        refine V_getr dX3_isSeenAt_45 fl_RX3_28 (hS.n 30 rfl) (hS.k 30 3 rfl) rfl (hS.r 30 5 35 rfl) ?_
        refine V_iload_n dX3_isSeenAt_48 rfl rfl ?_
        refine V_bipush (v := 24) dX3_isSeenAt_49 (by decide) ?_
        refine V_imul dX3_isSeenAt_51 ?_
        refine V_iload_n dX3_isSeenAt_52 rfl rfl ?_
        refine V_iadd dX3_isSeenAt_53 ?_
        obtain ⟨hb, h⟩ := h
        refine V_iald dX3_isSeenAt_54 (hS.n 35 rfl) (hS.k 35 9 rfl) (by rw [(hS.z 35 6144 rfl)]; exact hb) ?_
        refine V_aload_n dX3_isSeenAt_55 rfl rfl ?_
        refine V_iload_n dX3_isSeenAt_56 rfl rfl ?_
        refine V_iload_n dX3_isSeenAt_57 rfl rfl ?_
        refine V_callVi (st := [.int (I 35 (((a1 * 24) + x3)).toNatClampNeg)]) [.int a2, .int x3] dX3_isSeenAt_58 ok_mX3_codeAt rfl ml_RX3_95 in_mX3_codeAt se_mX3_codeAt (hS.n 30 rfl) (hS.k 30 3 rfl) (by decide) rfl (Nat.le_of_ble_eq_true rfl) (by decide) (by decide) (by decide) (s_mX3_codeAt hS h) (fun r3 I9 J9 h => ?_)
        obtain ⟨rfl, rfl, h⟩ := h
        refine V_icmp_eq 66 dX3_isSeenAt_61 rfl (fun hc => ?_) (fun hc => ?_)
        · replace h := h.1 hc
          obtain ⟨v4, e_v4⟩ : ∃ z : Int32, z = (x3 + 1) := ⟨_, rfl⟩
          replace h := h v4 e_v4
          refine V_iinc (lo2 := [(3, .int v4), (0, .ref 30), (1, .int a1), (2, .int a2)]) 3 dX3_isSeenAt_66 rfl (v := v4) (by rw [e_v4]; first | done | rfl) (by decide) rfl ?_
          refine V_goto 29 dX3_isSeenAt_69 rfl ?_
          refine V_sub (lo2 := [(0, .ref 30), (1, .int a1), (2, .int a2), (3, .int v4)]) [1, 2, 3, 0] rfl ?_
          exact ih _ h
        · replace h := h.2 hc
          refine V_iconst (v := 0) dX3_isSeenAt_64 (by decide) ?_
          exact V_zret dX3_isSeenAt_65 rfl (by decide) (by decide) (by decide) ⟨_, rfl, rfl, rfl, rfl, h⟩
def wX3_isSeenAt (a1 : Int32) (a2 : Int32) (I : QI) (post : Int32 → Prop) : Prop := ((a1 < 0 → post 0) ∧ (¬ a1 < 0 → ((256 ≤ a1 → post 0) ∧ (¬ 256 ≤ a1 → (vp_in a1 256 ∧ (wX3_lengthOf a2 I (fun r1 => (((I 34 (a1).toNatClampNeg) = r1 → (∃ f : Nat, wX3_isSeenAt_29 a1 a2 I post f 0)) ∧ (¬ (I 34 (a1).toNatClampNeg) = r1 → post 0)))))))))
set_option maxRecDepth 100000 in
set_option maxHeartbeats 4000000 in
theorem s_mX3_isSeenAt {X : QX} {S : QS} {a1 : Int32} {a2 : Int32} {I : QI} {J : QJ} {post : Int32 → Prop} (hS : Sh S) (h : wX3_isSeenAt a1 a2 I post) : CX X mX3_isSeenAt 2 0 0 [.ref 30, .int a1, .int a2] S I J (q_Pi S (fun r I2 J2 => I = I2 ∧ J = J2 ∧ post r)) := by
  refine CX.of (lo := [(0, .ref 30), (1, .int a1), (2, .int a2)]) ok_mX3_isSeenAt rfl (Nat.le_of_ble_eq_true rfl) rfl ?_
  replace h : ((a1 < 0 → post 0) ∧ (¬ a1 < 0 → ((256 ≤ a1 → post 0) ∧ (¬ 256 ≤ a1 → (vp_in a1 256 ∧ (wX3_lengthOf a2 I (fun r1 => (((I 34 (a1).toNatClampNeg) = r1 → (∃ f : Nat, wX3_isSeenAt_29 a1 a2 I post f 0)) ∧ (¬ (I 34 (a1).toNatClampNeg) = r1 → post 0))))))))) := h
  refine V_iload_n dX3_isSeenAt_0 rfl rfl ?_
  refine V_if_lt 25 dX3_isSeenAt_1 rfl (fun hc => ?_) (fun hc => ?_)
  · replace h := h.1 hc
    refine V_iconst (v := 0) dX3_isSeenAt_25 (by decide) ?_
    exact V_zret dX3_isSeenAt_26 rfl (by decide) (by decide) (by decide) ⟨_, rfl, rfl, rfl, rfl, h⟩
  · replace h := h.2 hc
    refine V_iload_n dX3_isSeenAt_4 rfl rfl ?_
    refine V_sipush (v := 256) dX3_isSeenAt_5 (by decide) ?_
    refine V_icmp_ge 25 dX3_isSeenAt_8 rfl (fun hc => ?_) (fun hc => ?_)
    · replace h := h.1 hc
      refine V_iconst (v := 0) dX3_isSeenAt_25 (by decide) ?_
      exact V_zret dX3_isSeenAt_26 rfl (by decide) (by decide) (by decide) ⟨_, rfl, rfl, rfl, rfl, h⟩
    · replace h := h.2 hc
      refine V_aload_n dX3_isSeenAt_11 rfl rfl ?_
      refine V_getr dX3_isSeenAt_12 fl_RX3_25 (hS.n 30 rfl) (hS.k 30 3 rfl) rfl (hS.r 30 4 34 rfl) ?_
      refine V_iload_n dX3_isSeenAt_15 rfl rfl ?_
      obtain ⟨hb, h⟩ := h
      refine V_iald dX3_isSeenAt_16 (hS.n 34 rfl) (hS.k 34 9 rfl) (by rw [(hS.z 34 256 rfl)]; exact hb) ?_
      refine V_aload_n dX3_isSeenAt_17 rfl rfl ?_
      refine V_iload_n dX3_isSeenAt_18 rfl rfl ?_
      refine V_callVi (st := [.int (I 34 (a1).toNatClampNeg)]) [.int a2] dX3_isSeenAt_19 ok_mX3_lengthOf rfl ml_RX3_92 in_mX3_lengthOf se_mX3_lengthOf (hS.n 30 rfl) (hS.k 30 3 rfl) (by decide) rfl (Nat.le_of_ble_eq_true rfl) (by decide) (by decide) (by decide) (s_mX3_lengthOf hS h) (fun r1 I9 J9 h => ?_)
      obtain ⟨rfl, rfl, h⟩ := h
      refine V_icmp_eq 27 dX3_isSeenAt_22 rfl (fun hc => ?_) (fun hc => ?_)
      · replace h := h.1 hc
        refine V_iconst (v := 0) dX3_isSeenAt_27 (by decide) ?_
        refine V_istore_n (lo2 := [(3, .int 0), (0, .ref 30), (1, .int a1), (2, .int a2)]) dX3_isSeenAt_28 rfl (by decide) rfl ?_
        refine V_sub (lo2 := [(0, .ref 30), (1, .int a1), (2, .int a2), (3, .int 0)]) [1, 2, 3, 0] rfl ?_
        obtain ⟨f9, h⟩ := h
        refine swX3_isSeenAt_29 hS f9 _ h
      · replace h := h.2 hc
        refine V_iconst (v := 0) dX3_isSeenAt_25 (by decide) ?_
        exact V_zret dX3_isSeenAt_26 rfl (by decide) (by decide) (by decide) ⟨_, rfl, rfl, rfl, rfl, h⟩
def wX3_find_2 (a1 : Int32) (a2 : Int32) (I : QI) (post : Int32 → Prop) : Nat → Int32 → Prop
  | 0, _ => False
  | n + 1, x3 => (((I 30 7) ≤ x3 → post (-1)) ∧ (¬ (I 30 7) ≤ x3 → ((256 ≤ x3 → post (-1)) ∧ (¬ 256 ≤ x3 → (vp_in x3 256 ∧ ((¬ (I 33 (x3).toNatClampNeg) = a1 → (∀ v1 : Int32, v1 = (x3 + 1) → (wX3_find_2 a1 a2 I post n v1))) ∧ ((I 33 (x3).toNatClampNeg) = a1 → (wX3_isSeenAt x3 a2 I (fun r2 => ((r2 = 0 → (∀ v3 : Int32, v3 = (x3 + 1) → (wX3_find_2 a1 a2 I post n v3))) ∧ (¬ r2 = 0 → post x3)))))))))))
set_option maxRecDepth 100000 in
set_option maxHeartbeats 4000000 in
theorem swX3_find_2 {X : QX} {S : QS} {a1 : Int32} {a2 : Int32} {I : QI} {J : QJ} {post : Int32 → Prop} (hS : Sh S) : ∀ (f : Nat) (x3 : Int32), wX3_find_2 a1 a2 I post f x3 → V X mX3_find 3 0 0 (q_Pi S (fun r I2 J2 => I = I2 ∧ J = J2 ∧ post r)) 2 [(0, .ref 30), (1, .int a1), (2, .int a2), (3, .int x3)] [] S I J 0 0 := by
  intro f
  induction f with
  | zero => intro x3 h; exact h.elim
  | succ n ih =>
    intro x3 h
    replace h : (((I 30 7) ≤ x3 → post (-1)) ∧ (¬ (I 30 7) ≤ x3 → ((256 ≤ x3 → post (-1)) ∧ (¬ 256 ≤ x3 → (vp_in x3 256 ∧ ((¬ (I 33 (x3).toNatClampNeg) = a1 → (∀ v1 : Int32, v1 = (x3 + 1) → (wX3_find_2 a1 a2 I post n v1))) ∧ ((I 33 (x3).toNatClampNeg) = a1 → (wX3_isSeenAt x3 a2 I (fun r2 => ((r2 = 0 → (∀ v3 : Int32, v3 = (x3 + 1) → (wX3_find_2 a1 a2 I post n v3))) ∧ (¬ r2 = 0 → post x3))))))))))) := h
    refine V_iload_n dX3_find_2 rfl rfl ?_
    refine V_aload_n dX3_find_3 rfl rfl ?_
    refine V_geti dX3_find_4 fl_RX3_40 (hS.n 30 rfl) (hS.k 30 3 rfl) rfl ?_
    refine V_icmp_ge 44 dX3_find_7 rfl (fun hc => ?_) (fun hc => ?_)
    · replace h := h.1 hc
      refine V_iconst (v := (-1)) dX3_find_44 (by decide) ?_
      exact V_iret dX3_find_45 rfl (by decide) (by decide) ⟨_, rfl, rfl, rfl, rfl, h⟩
    · replace h := h.2 hc
      refine V_iload_n dX3_find_10 rfl rfl ?_
      refine V_sipush (v := 256) dX3_find_11 (by decide) ?_
      refine V_icmp_ge 44 dX3_find_14 rfl (fun hc => ?_) (fun hc => ?_)
      · replace h := h.1 hc
        refine V_iconst (v := (-1)) dX3_find_44 (by decide) ?_
        exact V_iret dX3_find_45 rfl (by decide) (by decide) ⟨_, rfl, rfl, rfl, rfl, h⟩
      · replace h := h.2 hc
        refine V_aload_n dX3_find_17 rfl rfl ?_
        refine V_getr dX3_find_18 fl_RX3_22 (hS.n 30 rfl) (hS.k 30 3 rfl) rfl (hS.r 30 3 33 rfl) ?_
        refine V_iload_n dX3_find_21 rfl rfl ?_
        obtain ⟨hb, h⟩ := h
        refine V_iald dX3_find_22 (hS.n 33 rfl) (hS.k 33 9 rfl) (by rw [(hS.z 33 256 rfl)]; exact hb) ?_
        refine V_iload_n dX3_find_23 rfl rfl ?_
        refine V_icmp_ne 38 dX3_find_24 rfl (fun hc => ?_) (fun hc => ?_)
        · replace h := h.1 hc
          obtain ⟨v1, e_v1⟩ : ∃ z : Int32, z = (x3 + 1) := ⟨_, rfl⟩
          replace h := h v1 e_v1
          refine V_iinc (lo2 := [(3, .int v1), (0, .ref 30), (1, .int a1), (2, .int a2)]) 3 dX3_find_38 rfl (v := v1) (by rw [e_v1]; first | done | rfl) (by decide) rfl ?_
          refine V_goto 2 dX3_find_41 rfl ?_
          refine V_sub (lo2 := [(0, .ref 30), (1, .int a1), (2, .int a2), (3, .int v1)]) [1, 2, 3, 0] rfl ?_
          exact ih _ h
        · replace h := h.2 hc
          refine V_aload_n dX3_find_27 rfl rfl ?_
          refine V_iload_n dX3_find_28 rfl rfl ?_
          refine V_iload_n dX3_find_29 rfl rfl ?_
          refine V_callVi (st := []) [.int x3, .int a2] dX3_find_30 ok_mX3_isSeenAt rfl ml_RX3_137 in_mX3_isSeenAt se_mX3_isSeenAt (hS.n 30 rfl) (hS.k 30 3 rfl) (by decide) rfl (Nat.le_of_ble_eq_true rfl) (by decide) (by decide) (by decide) (s_mX3_isSeenAt hS h) (fun r2 I9 J9 h => ?_)
          obtain ⟨rfl, rfl, h⟩ := h
          refine V_if_eq 38 dX3_find_33 rfl (fun hc => ?_) (fun hc => ?_)
          · replace h := h.1 hc
            obtain ⟨v3, e_v3⟩ : ∃ z : Int32, z = (x3 + 1) := ⟨_, rfl⟩
            replace h := h v3 e_v3
            refine V_iinc (lo2 := [(3, .int v3), (0, .ref 30), (1, .int a1), (2, .int a2)]) 3 dX3_find_38 rfl (v := v3) (by rw [e_v3]; first | done | rfl) (by decide) rfl ?_
            refine V_goto 2 dX3_find_41 rfl ?_
            refine V_sub (lo2 := [(0, .ref 30), (1, .int a1), (2, .int a2), (3, .int v3)]) [1, 2, 3, 0] rfl ?_
            exact ih _ h
          · replace h := h.2 hc
            refine V_iload_n dX3_find_36 rfl rfl ?_
            exact V_iret dX3_find_37 rfl (by decide) (by decide) ⟨_, rfl, rfl, rfl, rfl, h⟩
def wX3_find (a1 : Int32) (a2 : Int32) (I : QI) (post : Int32 → Prop) : Prop := (∃ f : Nat, wX3_find_2 a1 a2 I post f 0)
set_option maxRecDepth 100000 in
set_option maxHeartbeats 4000000 in
theorem s_mX3_find {X : QX} {S : QS} {a1 : Int32} {a2 : Int32} {I : QI} {J : QJ} {post : Int32 → Prop} (hS : Sh S) (h : wX3_find a1 a2 I post) : CX X mX3_find 3 0 0 [.ref 30, .int a1, .int a2] S I J (q_Pi S (fun r I2 J2 => I = I2 ∧ J = J2 ∧ post r)) := by
  refine CX.of (lo := [(0, .ref 30), (1, .int a1), (2, .int a2)]) ok_mX3_find rfl (Nat.le_of_ble_eq_true rfl) rfl ?_
  replace h : (∃ f : Nat, wX3_find_2 a1 a2 I post f 0) := h
  refine V_iconst (v := 0) dX3_find_0 (by decide) ?_
  refine V_istore_n (lo2 := [(3, .int 0), (0, .ref 30), (1, .int a1), (2, .int a2)]) dX3_find_1 rfl (by decide) rfl ?_
  refine V_sub (lo2 := [(0, .ref 30), (1, .int a1), (2, .int a2), (3, .int 0)]) [1, 2, 3, 0] rfl ?_
  obtain ⟨f9, h⟩ := h
  refine swX3_find_2 hS f9 _ h
def wX3_remember_48 (a1 : Int32) (a2 : Int32) (K89 : QI → Prop) (post : Int32 → QI → Prop) : Nat → Int32 → QI → Prop
  | 0, _, _ => False
  | n + 1, x3, I => (wX3_lengthOf a2 I (fun r5 => ((r5 ≤ x3 → (K89 I)) ∧ (¬ r5 ≤ x3 → ((24 ≤ x3 → (K89 I)) ∧ (¬ 24 ≤ x3 → (wX3_codeAt a2 x3 I (fun r6 => (vp_in (((I 30 7) * 24) + x3) 6144 ∧ (∀ I7 : QI, I7 = q_u2 I 35 ((((I 30 7) * 24) + x3)).toNatClampNeg r6 → (∀ v8 : Int32, v8 = (x3 + 1) → (wX3_remember_48 a1 a2 K89 post n v8 I7))))))))))))
set_option maxRecDepth 100000 in
set_option maxHeartbeats 4000000 in
theorem swX3_remember_48 {X : QX} {S : QS} {a1 : Int32} {a2 : Int32} {J : QJ} {K89 : QI → Prop} {post : Int32 → QI → Prop} (hS : Sh S) (hK89 : ∀ (I : QI), K89 I → V X mX3_remember 2 0 0 (q_Pi S (fun r I2 J2 => J = J2 ∧ post r I2)) 89 [(0, .ref 30)] [] S I J 0 0) : ∀ (f : Nat) (x3 : Int32) (I : QI), wX3_remember_48 a1 a2 K89 post f x3 I → V X mX3_remember 2 0 0 (q_Pi S (fun r I2 J2 => J = J2 ∧ post r I2)) 48 [(0, .ref 30), (2, .int a2), (3, .int x3)] [] S I J 0 0 := by
  intro f
  induction f with
  | zero => intro x3 I h; exact h.elim
  | succ n ih =>
    intro x3 I h
    replace h : (wX3_lengthOf a2 I (fun r5 => ((r5 ≤ x3 → (K89 I)) ∧ (¬ r5 ≤ x3 → ((24 ≤ x3 → (K89 I)) ∧ (¬ 24 ≤ x3 → (wX3_codeAt a2 x3 I (fun r6 => (vp_in (((I 30 7) * 24) + x3) 6144 ∧ (∀ I7 : QI, I7 = q_u2 I 35 ((((I 30 7) * 24) + x3)).toNatClampNeg r6 → (∀ v8 : Int32, v8 = (x3 + 1) → (wX3_remember_48 a1 a2 K89 post n v8 I7)))))))))))) := h
    refine V_iload_n dX3_remember_48 rfl rfl ?_
    refine V_aload_n dX3_remember_49 rfl rfl ?_
    refine V_iload_n dX3_remember_50 rfl rfl ?_
    refine V_callVi (st := [.int x3]) [.int a2] dX3_remember_51 ok_mX3_lengthOf rfl ml_RX3_92 in_mX3_lengthOf se_mX3_lengthOf (hS.n 30 rfl) (hS.k 30 3 rfl) (by decide) rfl (Nat.le_of_ble_eq_true rfl) (by decide) (by decide) (by decide) (s_mX3_lengthOf hS h) (fun r5 I9 J9 h => ?_)
    obtain ⟨rfl, rfl, h⟩ := h
    refine V_icmp_ge 89 dX3_remember_54 rfl (fun hc => ?_) (fun hc => ?_)
    · replace h := h.1 hc
      refine V_sub (lo2 := [(0, .ref 30)]) [0] rfl ?_
      exact hK89 _ h
    · replace h := h.2 hc
      refine V_iload_n dX3_remember_57 rfl rfl ?_
      refine V_bipush (v := 24) dX3_remember_58 (by decide) ?_
      refine V_icmp_ge 89 dX3_remember_60 rfl (fun hc => ?_) (fun hc => ?_)
      · replace h := h.1 hc
        refine V_sub (lo2 := [(0, .ref 30)]) [0] rfl ?_
        exact hK89 _ h
      · replace h := h.2 hc
        refine V_aload_n dX3_remember_63 rfl rfl ?_
        refine V_getr dX3_remember_64 fl_RX3_28 (hS.n 30 rfl) (hS.k 30 3 rfl) rfl (hS.r 30 5 35 rfl) ?_
        refine V_aload_n dX3_remember_67 rfl rfl ?_
        refine V_geti dX3_remember_68 fl_RX3_40 (hS.n 30 rfl) (hS.k 30 3 rfl) rfl ?_
        refine V_bipush (v := 24) dX3_remember_71 (by decide) ?_
        refine V_imul dX3_remember_73 ?_
        refine V_iload_n dX3_remember_74 rfl rfl ?_
        refine V_iadd dX3_remember_75 ?_
        refine V_aload_n dX3_remember_76 rfl rfl ?_
        refine V_iload_n dX3_remember_77 rfl rfl ?_
        refine V_iload_n dX3_remember_78 rfl rfl ?_
        refine V_callVi (st := [.int (((I 30 7) * 24) + x3), .ref 35]) [.int a2, .int x3] dX3_remember_79 ok_mX3_codeAt rfl ml_RX3_95 in_mX3_codeAt se_mX3_codeAt (hS.n 30 rfl) (hS.k 30 3 rfl) (by decide) rfl (Nat.le_of_ble_eq_true rfl) (by decide) (by decide) (by decide) (s_mX3_codeAt hS h) (fun r6 I9 J9 h => ?_)
        obtain ⟨rfl, rfl, h⟩ := h
        obtain ⟨hb, h⟩ := h
        refine V_iast dX3_remember_82 (hS.n 35 rfl) (hS.k 35 9 rfl) (by rw [(hS.z 35 6144 rfl)]; exact hb) ?_
        refine V_memI (fun I7 e_I7 => ?_)
        replace h := h I7 e_I7
        obtain ⟨v8, e_v8⟩ : ∃ z : Int32, z = (x3 + 1) := ⟨_, rfl⟩
        replace h := h v8 e_v8
        refine V_iinc (lo2 := [(3, .int v8), (0, .ref 30), (2, .int a2)]) 2 dX3_remember_83 rfl (v := v8) (by rw [e_v8]; first | done | rfl) (by decide) rfl ?_
        refine V_goto 48 dX3_remember_86 rfl ?_
        refine V_sub (lo2 := [(0, .ref 30), (2, .int a2), (3, .int v8)]) [1, 2, 0] rfl ?_
        exact ih _ _ h
def wX3_remember (a1 : Int32) (a2 : Int32) (I : QI) (post : Int32 → QI → Prop) : Prop := (((I 30 7) < 256 → (vp_in (I 30 7) 256 ∧ (∀ I1 : QI, I1 = q_u2 I 33 ((I 30 7)).toNatClampNeg a1 → (wX3_lengthOf a2 I1 (fun r2 => (vp_in (I1 30 7) 256 ∧ (∀ I3 : QI, I3 = q_u2 I1 34 ((I1 30 7)).toNatClampNeg r2 → (vp_in (I3 30 7) 256 ∧ (∀ I4 : QI, I4 = q_u2 I3 36 ((I3 30 7)).toNatClampNeg (-1) → (∃ f : Nat, wX3_remember_48 a1 a2 (fun I9 => (∀ I10 : QI, I10 = q_u2 I9 30 7 ((I9 30 7) + 1) → post ((I10 30 7) - 1) I10)) post f 0 I4)))))))))) ∧ (¬ (I 30 7) < 256 → post (-1) I))
set_option maxRecDepth 100000 in
set_option maxHeartbeats 4000000 in
theorem s_mX3_remember {X : QX} {S : QS} {a1 : Int32} {a2 : Int32} {I : QI} {J : QJ} {post : Int32 → QI → Prop} (hS : Sh S) (h : wX3_remember a1 a2 I post) : CX X mX3_remember 2 0 0 [.ref 30, .int a1, .int a2] S I J (q_Pi S (fun r I2 J2 => J = J2 ∧ post r I2)) := by
  refine CX.of (lo := [(0, .ref 30), (1, .int a1), (2, .int a2)]) ok_mX3_remember rfl (Nat.le_of_ble_eq_true rfl) rfl ?_
  replace h : (((I 30 7) < 256 → (vp_in (I 30 7) 256 ∧ (∀ I1 : QI, I1 = q_u2 I 33 ((I 30 7)).toNatClampNeg a1 → (wX3_lengthOf a2 I1 (fun r2 => (vp_in (I1 30 7) 256 ∧ (∀ I3 : QI, I3 = q_u2 I1 34 ((I1 30 7)).toNatClampNeg r2 → (vp_in (I3 30 7) 256 ∧ (∀ I4 : QI, I4 = q_u2 I3 36 ((I3 30 7)).toNatClampNeg (-1) → (∃ f : Nat, wX3_remember_48 a1 a2 (fun I9 => (∀ I10 : QI, I10 = q_u2 I9 30 7 ((I9 30 7) + 1) → post ((I10 30 7) - 1) I10)) post f 0 I4)))))))))) ∧ (¬ (I 30 7) < 256 → post (-1) I)) := h
  refine V_aload_n dX3_remember_0 rfl rfl ?_
  refine V_geti dX3_remember_1 fl_RX3_40 (hS.n 30 rfl) (hS.k 30 3 rfl) rfl ?_
  refine V_sipush (v := 256) dX3_remember_4 (by decide) ?_
  refine V_icmp_lt 12 dX3_remember_7 rfl (fun hc => ?_) (fun hc => ?_)
  · replace h := h.1 hc
    refine V_aload_n dX3_remember_12 rfl rfl ?_
    refine V_getr dX3_remember_13 fl_RX3_22 (hS.n 30 rfl) (hS.k 30 3 rfl) rfl (hS.r 30 3 33 rfl) ?_
    refine V_aload_n dX3_remember_16 rfl rfl ?_
    refine V_geti dX3_remember_17 fl_RX3_40 (hS.n 30 rfl) (hS.k 30 3 rfl) rfl ?_
    refine V_iload_n dX3_remember_20 rfl rfl ?_
    obtain ⟨hb, h⟩ := h
    refine V_iast dX3_remember_21 (hS.n 33 rfl) (hS.k 33 9 rfl) (by rw [(hS.z 33 256 rfl)]; exact hb) ?_
    refine V_memI (fun I1 e_I1 => ?_)
    replace h := h I1 e_I1
    refine V_aload_n dX3_remember_22 rfl rfl ?_
    refine V_getr dX3_remember_23 fl_RX3_25 (hS.n 30 rfl) (hS.k 30 3 rfl) rfl (hS.r 30 4 34 rfl) ?_
    refine V_aload_n dX3_remember_26 rfl rfl ?_
    refine V_geti dX3_remember_27 fl_RX3_40 (hS.n 30 rfl) (hS.k 30 3 rfl) rfl ?_
    refine V_aload_n dX3_remember_30 rfl rfl ?_
    refine V_iload_n dX3_remember_31 rfl rfl ?_
    refine V_callVi (st := [.int (I1 30 7), .ref 34]) [.int a2] dX3_remember_32 ok_mX3_lengthOf rfl ml_RX3_92 in_mX3_lengthOf se_mX3_lengthOf (hS.n 30 rfl) (hS.k 30 3 rfl) (by decide) rfl (Nat.le_of_ble_eq_true rfl) (by decide) (by decide) (by decide) (s_mX3_lengthOf hS h) (fun r2 I9 J9 h => ?_)
    obtain ⟨rfl, rfl, h⟩ := h
    obtain ⟨hb, h⟩ := h
    refine V_iast dX3_remember_35 (hS.n 34 rfl) (hS.k 34 9 rfl) (by rw [(hS.z 34 256 rfl)]; exact hb) ?_
    refine V_memI (fun I3 e_I3 => ?_)
    replace h := h I3 e_I3
    refine V_aload_n dX3_remember_36 rfl rfl ?_
    refine V_getr dX3_remember_37 fl_RX3_31 (hS.n 30 rfl) (hS.k 30 3 rfl) rfl (hS.r 30 6 36 rfl) ?_
    refine V_aload_n dX3_remember_40 rfl rfl ?_
    refine V_geti dX3_remember_41 fl_RX3_40 (hS.n 30 rfl) (hS.k 30 3 rfl) rfl ?_
    refine V_iconst (v := (-1)) dX3_remember_44 (by decide) ?_
    obtain ⟨hb, h⟩ := h
    refine V_iast dX3_remember_45 (hS.n 36 rfl) (hS.k 36 9 rfl) (by rw [(hS.z 36 256 rfl)]; exact hb) ?_
    refine V_memI (fun I4 e_I4 => ?_)
    replace h := h I4 e_I4
    refine V_iconst (v := 0) dX3_remember_46 (by decide) ?_
    refine V_istore_n (lo2 := [(3, .int 0), (0, .ref 30), (1, .int a1), (2, .int a2)]) dX3_remember_47 rfl (by decide) rfl ?_
    refine V_sub (lo2 := [(0, .ref 30), (2, .int a2), (3, .int 0)]) [1, 3, 0] rfl ?_
    obtain ⟨f9, h⟩ := h
    refine swX3_remember_48 hS ?_ f9 _ _ h
    · intro I9 h
      refine V_aload_n dX3_remember_89 rfl rfl ?_
      refine V_dup dX3_remember_90 rfl ?_
      refine V_geti dX3_remember_91 fl_RX3_40 (hS.n 30 rfl) (hS.k 30 3 rfl) rfl ?_
      refine V_iconst (v := 1) dX3_remember_94 (by decide) ?_
      refine V_iadd dX3_remember_95 ?_
      refine V_puti dX3_remember_96 fl_RX3_40 rfl (hS.n 30 rfl) (hS.k 30 3 rfl) rfl rfl rfl ?_
      refine V_memI (fun I10 e_I10 => ?_)
      replace h := h I10 e_I10
      refine V_aload_n dX3_remember_99 rfl rfl ?_
      refine V_geti dX3_remember_100 fl_RX3_40 (hS.n 30 rfl) (hS.k 30 3 rfl) rfl ?_
      refine V_iconst (v := 1) dX3_remember_103 (by decide) ?_
      refine V_isub dX3_remember_104 ?_
      exact V_iret dX3_remember_105 rfl (by decide) (by decide) ⟨_, rfl, rfl, rfl, h⟩
  · replace h := h.2 hc
    refine V_iconst (v := (-1)) dX3_remember_10 (by decide) ?_
    exact V_iret dX3_remember_11 rfl (by decide) (by decide) ⟨_, rfl, rfl, rfl, h⟩
def wX3_setCode (a1 : Int32) (a2 : Int32) (a3 : Int32) (I : QI) (post : QI → Prop) : Prop := ((a2 < 0 → post I) ∧ (¬ a2 < 0 → (wX3_lengthOf a1 I (fun r1 => ((r1 ≤ a2 → post I) ∧ (¬ r1 ≤ a2 → ((24 ≤ a2 → post I) ∧ (¬ 24 ≤ a2 → (vp_in ((a1 * 24) + a2) 600 ∧ (∀ I2 : QI, I2 = q_u2 I 31 (((a1 * 24) + a2)).toNatClampNeg a3 → post I2))))))))))
set_option maxRecDepth 100000 in
set_option maxHeartbeats 4000000 in
theorem s_mX3_setCode {X : QX} {S : QS} {a1 : Int32} {a2 : Int32} {a3 : Int32} {I : QI} {J : QJ} {post : QI → Prop} (hS : Sh S) (h : wX3_setCode a1 a2 a3 I post) : CX X mX3_setCode 1 0 0 [.ref 30, .int a1, .int a2, .int a3] S I J (q_Pv S (fun I2 J2 => J = J2 ∧ post I2)) := by
  refine CX.of (lo := [(0, .ref 30), (1, .int a1), (2, .int a2), (3, .int a3)]) ok_mX3_setCode rfl (Nat.le_of_ble_eq_true rfl) rfl ?_
  replace h : ((a2 < 0 → post I) ∧ (¬ a2 < 0 → (wX3_lengthOf a1 I (fun r1 => ((r1 ≤ a2 → post I) ∧ (¬ r1 ≤ a2 → ((24 ≤ a2 → post I) ∧ (¬ 24 ≤ a2 → (vp_in ((a1 * 24) + a2) 600 ∧ (∀ I2 : QI, I2 = q_u2 I 31 (((a1 * 24) + a2)).toNatClampNeg a3 → post I2)))))))))) := h
  refine V_iload_n dX3_setCode_0 rfl rfl ?_
  refine V_if_lt 31 dX3_setCode_1 rfl (fun hc => ?_) (fun hc => ?_)
  · replace h := h.1 hc
    exact V_vret dX3_setCode_31 rfl (by decide) (by decide) ⟨rfl, rfl, rfl, h⟩
  · replace h := h.2 hc
    refine V_iload_n dX3_setCode_4 rfl rfl ?_
    refine V_aload_n dX3_setCode_5 rfl rfl ?_
    refine V_iload_n dX3_setCode_6 rfl rfl ?_
    refine V_callVi (st := [.int a2]) [.int a1] dX3_setCode_7 ok_mX3_lengthOf rfl ml_RX3_92 in_mX3_lengthOf se_mX3_lengthOf (hS.n 30 rfl) (hS.k 30 3 rfl) (by decide) rfl (Nat.le_of_ble_eq_true rfl) (by decide) (by decide) (by decide) (s_mX3_lengthOf hS h) (fun r1 I9 J9 h => ?_)
    obtain ⟨rfl, rfl, h⟩ := h
    refine V_icmp_ge 31 dX3_setCode_10 rfl (fun hc => ?_) (fun hc => ?_)
    · replace h := h.1 hc
      exact V_vret dX3_setCode_31 rfl (by decide) (by decide) ⟨rfl, rfl, rfl, h⟩
    · replace h := h.2 hc
      refine V_iload_n dX3_setCode_13 rfl rfl ?_
      refine V_bipush (v := 24) dX3_setCode_14 (by decide) ?_
      refine V_icmp_ge 31 dX3_setCode_16 rfl (fun hc => ?_) (fun hc => ?_)
      · replace h := h.1 hc
        exact V_vret dX3_setCode_31 rfl (by decide) (by decide) ⟨rfl, rfl, rfl, h⟩
      · replace h := h.2 hc
        refine V_aload_n dX3_setCode_19 rfl rfl ?_
        refine V_getr dX3_setCode_20 fl_RX3_15 (hS.n 30 rfl) (hS.k 30 3 rfl) rfl (hS.r 30 1 31 rfl) ?_
        refine V_iload_n dX3_setCode_23 rfl rfl ?_
        refine V_bipush (v := 24) dX3_setCode_24 (by decide) ?_
        refine V_imul dX3_setCode_26 ?_
        refine V_iload_n dX3_setCode_27 rfl rfl ?_
        refine V_iadd dX3_setCode_28 ?_
        refine V_iload_n dX3_setCode_29 rfl rfl ?_
        obtain ⟨hb, h⟩ := h
        refine V_iast dX3_setCode_30 (hS.n 31 rfl) (hS.k 31 9 rfl) (by rw [(hS.z 31 600 rfl)]; exact hb) ?_
        refine V_memI (fun I2 e_I2 => ?_)
        replace h := h I2 e_I2
        exact V_vret dX3_setCode_31 rfl (by decide) (by decide) ⟨rfl, rfl, rfl, h⟩
def wX3_append (a1 : Int32) (a2 : Int32) (I : QI) (post : QI → Prop) : Prop := ((a1 < 0 → post I) ∧ (¬ a1 < 0 → ((25 ≤ a1 → post I) ∧ (¬ 25 ≤ a1 → (vp_in a1 25 ∧ ((24 ≤ (I 32 (a1).toNatClampNeg) → post I) ∧ (¬ 24 ≤ (I 32 (a1).toNatClampNeg) → (vp_in a1 25 ∧ (vp_in a1 25 ∧ (∀ I1 : QI, I1 = q_u2 I 32 (a1).toNatClampNeg ((I 32 (a1).toNatClampNeg) + 1) → (vp_in a1 25 ∧ (wX3_setCode a1 ((I1 32 (a1).toNatClampNeg) - 1) a2 I1 (fun I2 => post I2)))))))))))))
set_option maxRecDepth 100000 in
set_option maxHeartbeats 4000000 in
theorem s_mX3_append {X : QX} {S : QS} {a1 : Int32} {a2 : Int32} {I : QI} {J : QJ} {post : QI → Prop} (hS : Sh S) (h : wX3_append a1 a2 I post) : CX X mX3_append 2 0 0 [.ref 30, .int a1, .int a2] S I J (q_Pv S (fun I2 J2 => J = J2 ∧ post I2)) := by
  refine CX.of (lo := [(0, .ref 30), (1, .int a1), (2, .int a2)]) ok_mX3_append rfl (Nat.le_of_ble_eq_true rfl) rfl ?_
  replace h : ((a1 < 0 → post I) ∧ (¬ a1 < 0 → ((25 ≤ a1 → post I) ∧ (¬ 25 ≤ a1 → (vp_in a1 25 ∧ ((24 ≤ (I 32 (a1).toNatClampNeg) → post I) ∧ (¬ 24 ≤ (I 32 (a1).toNatClampNeg) → (vp_in a1 25 ∧ (vp_in a1 25 ∧ (∀ I1 : QI, I1 = q_u2 I 32 (a1).toNatClampNeg ((I 32 (a1).toNatClampNeg) + 1) → (vp_in a1 25 ∧ (wX3_setCode a1 ((I1 32 (a1).toNatClampNeg) - 1) a2 I1 (fun I2 => post I2))))))))))))) := h
  refine V_iload_n dX3_append_0 rfl rfl ?_
  refine V_if_lt 45 dX3_append_1 rfl (fun hc => ?_) (fun hc => ?_)
  · replace h := h.1 hc
    exact V_vret dX3_append_45 rfl (by decide) (by decide) ⟨rfl, rfl, rfl, h⟩
  · replace h := h.2 hc
    refine V_iload_n dX3_append_4 rfl rfl ?_
    refine V_bipush (v := 25) dX3_append_5 (by decide) ?_
    refine V_icmp_ge 45 dX3_append_7 rfl (fun hc => ?_) (fun hc => ?_)
    · replace h := h.1 hc
      exact V_vret dX3_append_45 rfl (by decide) (by decide) ⟨rfl, rfl, rfl, h⟩
    · replace h := h.2 hc
      refine V_aload_n dX3_append_10 rfl rfl ?_
      refine V_getr dX3_append_11 fl_RX3_19 (hS.n 30 rfl) (hS.k 30 3 rfl) rfl (hS.r 30 2 32 rfl) ?_
      refine V_iload_n dX3_append_14 rfl rfl ?_
      obtain ⟨hb, h⟩ := h
      refine V_iald dX3_append_15 (hS.n 32 rfl) (hS.k 32 9 rfl) (by rw [(hS.z 32 25 rfl)]; exact hb) ?_
      refine V_bipush (v := 24) dX3_append_16 (by decide) ?_
      refine V_icmp_ge 45 dX3_append_18 rfl (fun hc => ?_) (fun hc => ?_)
      · replace h := h.1 hc
        exact V_vret dX3_append_45 rfl (by decide) (by decide) ⟨rfl, rfl, rfl, h⟩
      · replace h := h.2 hc
        refine V_aload_n dX3_append_21 rfl rfl ?_
        refine V_getr dX3_append_22 fl_RX3_19 (hS.n 30 rfl) (hS.k 30 3 rfl) rfl (hS.r 30 2 32 rfl) ?_
        refine V_iload_n dX3_append_25 rfl rfl ?_
        refine V_dup2 dX3_append_26 rfl rfl ?_
        obtain ⟨hb, h⟩ := h
        refine V_iald dX3_append_27 (hS.n 32 rfl) (hS.k 32 9 rfl) (by rw [(hS.z 32 25 rfl)]; exact hb) ?_
        refine V_iconst (v := 1) dX3_append_28 (by decide) ?_
        refine V_iadd dX3_append_29 ?_
        obtain ⟨hb, h⟩ := h
        refine V_iast dX3_append_30 (hS.n 32 rfl) (hS.k 32 9 rfl) (by rw [(hS.z 32 25 rfl)]; exact hb) ?_
        refine V_memI (fun I1 e_I1 => ?_)
        replace h := h I1 e_I1
        refine V_aload_n dX3_append_31 rfl rfl ?_
        refine V_iload_n dX3_append_32 rfl rfl ?_
        refine V_aload_n dX3_append_33 rfl rfl ?_
        refine V_getr dX3_append_34 fl_RX3_19 (hS.n 30 rfl) (hS.k 30 3 rfl) rfl (hS.r 30 2 32 rfl) ?_
        refine V_iload_n dX3_append_37 rfl rfl ?_
        obtain ⟨hb, h⟩ := h
        refine V_iald dX3_append_38 (hS.n 32 rfl) (hS.k 32 9 rfl) (by rw [(hS.z 32 25 rfl)]; exact hb) ?_
        refine V_iconst (v := 1) dX3_append_39 (by decide) ?_
        refine V_isub dX3_append_40 ?_
        refine V_iload_n dX3_append_41 rfl rfl ?_
        refine V_callVv (st := []) [.int a1, .int ((I1 32 (a1).toNatClampNeg) - 1), .int a2] dX3_append_42 ok_mX3_setCode rfl ml_RX3_134 in_mX3_setCode se_mX3_setCode (hS.n 30 rfl) (hS.k 30 3 rfl) (by decide) rfl (Nat.le_of_ble_eq_true rfl) (by decide) (by decide) (by decide) (s_mX3_setCode hS h) (fun I2 J9 h => ?_)
        obtain ⟨rfl, h⟩ := h
        exact V_vret dX3_append_45 rfl (by decide) (by decide) ⟨rfl, rfl, rfl, h⟩
def wX3_codeOf (a0 : Int32) (a1 : Int32) (a2 : Int32) (I : QI) (post : Int32 → Prop) : Prop := post ((((a0 * 1194) + (a1 * 199)) + a2) + 99)
set_option maxRecDepth 100000 in
set_option maxHeartbeats 4000000 in
theorem s_mX3_codeOf {X : QX} {S : QS} {a0 : Int32} {a1 : Int32} {a2 : Int32} {I : QI} {J : QJ} {post : Int32 → Prop} (hS : Sh S) (h : wX3_codeOf a0 a1 a2 I post) : CX X mX3_codeOf 0 0 0 [.int a0, .int a1, .int a2] S I J (q_Pi S (fun r I2 J2 => I = I2 ∧ J = J2 ∧ post r)) := by
  refine CX.of (lo := [(0, .int a0), (1, .int a1), (2, .int a2)]) ok_mX3_codeOf rfl (Nat.le_of_ble_eq_true rfl) rfl ?_
  replace h : post ((((a0 * 1194) + (a1 * 199)) + a2) + 99) := h
  refine V_iload_n dX3_codeOf_0 rfl rfl ?_
  refine V_sipush (v := 1194) dX3_codeOf_1 (by decide) ?_
  refine V_imul dX3_codeOf_4 ?_
  refine V_iload_n dX3_codeOf_5 rfl rfl ?_
  refine V_sipush (v := 199) dX3_codeOf_6 (by decide) ?_
  refine V_imul dX3_codeOf_9 ?_
  refine V_iadd dX3_codeOf_10 ?_
  refine V_iload_n dX3_codeOf_11 rfl rfl ?_
  refine V_iadd dX3_codeOf_12 ?_
  refine V_bipush (v := 99) dX3_codeOf_13 (by decide) ?_
  refine V_iadd dX3_codeOf_15 ?_
  exact V_iret dX3_codeOf_16 rfl (by decide) (by decide) ⟨_, rfl, rfl, rfl, rfl, h⟩
def wX3_settleFilter_43 (rec : Int32 → Int32 → QI → (Int32 → QI → Prop) → Prop) (a1 : Int32) (a2 : Int32) (K71 : QI → Prop) (post : Int32 → QI → Prop) : Nat → Int32 → QI → Prop
  | 0, _, _ => False
  | n + 1, x3, I => (wX3_lengthOf a2 I (fun r7 => ((r7 ≤ x3 → (K71 I)) ∧ (¬ r7 ≤ x3 → (wX3_codeAt a2 x3 I (fun r8 => (wX3_append (a2 + 1) r8 I (fun I9 => (∀ v10 : Int32, v10 = (x3 + 1) → (wX3_settleFilter_43 rec a1 a2 K71 post n v10 I9))))))))))
set_option maxRecDepth 100000 in
set_option maxHeartbeats 4000000 in
theorem swX3_settleFilter_43 {X : QX} {S : QS} {rec : Int32 → Int32 → QI → (Int32 → QI → Prop) → Prop} {a1 : Int32} {a2 : Int32} {J : QJ} {K71 : QI → Prop} {post : Int32 → QI → Prop} {D : Nat} (hD : 8 ≤ D) (hrec : ∀ (a1 a2 : Int32) (I : QI) (J : QJ) (post : Int32 → QI → Prop), rec a1 a2 I post → CX X mX3_settle D 0 0 [.ref 30, .int a1, .int a2] S I J (q_Pi S (fun r I2 J2 => J = J2 ∧ post r I2))) (hS : Sh S) (hK71 : ∀ (I : QI), K71 I → V X mX3_settleFilter (D + 1) 0 0 (q_Pi S (fun r I2 J2 => J = J2 ∧ post r I2)) 71 [(0, .ref 30), (1, .int a1), (2, .int a2)] [] S I J 0 0) : ∀ (f : Nat) (x3 : Int32) (I : QI), wX3_settleFilter_43 rec a1 a2 K71 post f x3 I → V X mX3_settleFilter (D + 1) 0 0 (q_Pi S (fun r I2 J2 => J = J2 ∧ post r I2)) 43 [(0, .ref 30), (1, .int a1), (2, .int a2), (3, .int x3)] [] S I J 0 0 := by
  intro f
  induction f with
  | zero => intro x3 I h; exact h.elim
  | succ n ih =>
    intro x3 I h
    replace h : (wX3_lengthOf a2 I (fun r7 => ((r7 ≤ x3 → (K71 I)) ∧ (¬ r7 ≤ x3 → (wX3_codeAt a2 x3 I (fun r8 => (wX3_append (a2 + 1) r8 I (fun I9 => (∀ v10 : Int32, v10 = (x3 + 1) → (wX3_settleFilter_43 rec a1 a2 K71 post n v10 I9)))))))))) := h
    refine V_iload_n dX3_settleFilter_43 rfl rfl ?_
    refine V_aload_n dX3_settleFilter_44 rfl rfl ?_
    refine V_iload_n dX3_settleFilter_45 rfl rfl ?_
    refine V_callVi (st := [.int x3]) [.int a2] dX3_settleFilter_46 ok_mX3_lengthOf rfl ml_RX3_92 in_mX3_lengthOf se_mX3_lengthOf (hS.n 30 rfl) (hS.k 30 3 rfl) (by decide) rfl (Nat.le_of_ble_eq_true rfl) (by omega) (by decide) (by decide) (s_mX3_lengthOf hS h) (fun r7 I9 J9 h => ?_)
    obtain ⟨rfl, rfl, h⟩ := h
    refine V_icmp_ge 71 dX3_settleFilter_49 rfl (fun hc => ?_) (fun hc => ?_)
    · replace h := h.1 hc
      refine V_sub (lo2 := [(0, .ref 30), (1, .int a1), (2, .int a2)]) [0, 1, 2] rfl ?_
      exact hK71 _ h
    · replace h := h.2 hc
      refine V_aload_n dX3_settleFilter_52 rfl rfl ?_
      refine V_iload_n dX3_settleFilter_53 rfl rfl ?_
      refine V_iconst (v := 1) dX3_settleFilter_54 (by decide) ?_
      refine V_iadd dX3_settleFilter_55 ?_
      refine V_aload_n dX3_settleFilter_56 rfl rfl ?_
      refine V_iload_n dX3_settleFilter_57 rfl rfl ?_
      refine V_iload_n dX3_settleFilter_58 rfl rfl ?_
      refine V_callVi (st := [.int (a2 + 1), .ref 30]) [.int a2, .int x3] dX3_settleFilter_59 ok_mX3_codeAt rfl ml_RX3_95 in_mX3_codeAt se_mX3_codeAt (hS.n 30 rfl) (hS.k 30 3 rfl) (by decide) rfl (Nat.le_of_ble_eq_true rfl) (by omega) (by decide) (by decide) (s_mX3_codeAt hS h) (fun r8 I9 J9 h => ?_)
      obtain ⟨rfl, rfl, h⟩ := h
      refine V_callVv (st := []) [.int (a2 + 1), .int r8] dX3_settleFilter_62 ok_mX3_append rfl ml_RX3_88 in_mX3_append se_mX3_append (hS.n 30 rfl) (hS.k 30 3 rfl) (by decide) rfl (Nat.le_of_ble_eq_true rfl) (by omega) (by decide) (by decide) (s_mX3_append hS h) (fun I9 J9 h => ?_)
      obtain ⟨rfl, h⟩ := h
      obtain ⟨v10, e_v10⟩ : ∃ z : Int32, z = (x3 + 1) := ⟨_, rfl⟩
      replace h := h v10 e_v10
      refine V_iinc (lo2 := [(3, .int v10), (0, .ref 30), (1, .int a1), (2, .int a2)]) 3 dX3_settleFilter_65 rfl (v := v10) (by rw [e_v10]; first | done | rfl) (by decide) rfl ?_
      refine V_goto 43 dX3_settleFilter_68 rfl ?_
      refine V_sub (lo2 := [(0, .ref 30), (1, .int a1), (2, .int a2), (3, .int v10)]) [1, 2, 3, 0] rfl ?_
      exact ih _ _ h
def wX3_settleFilter (rec : Int32 → Int32 → QI → (Int32 → QI → Prop) → Prop) (a1 : Int32) (a2 : Int32) (I : QI) (post : Int32 → QI → Prop) : Prop := (wX3_empty (a2 + 1) I (fun I1 => (wX2_columnOf a1 I1 (fun r2 => (wX2_kindOf a1 I1 (fun r3 => (wX2_extraOf a1 I1 (fun r4 => (wX3_codeOf r2 r3 r4 I1 (fun r5 => (wX3_append (a2 + 1) r5 I1 (fun I6 => (∃ f : Nat, wX3_settleFilter_43 rec a1 a2 (fun I11 => (wX2_firstOf a1 I11 (fun r12 => (rec r12 (a2 + 1) I11 (fun r14 I13 => post r14 I13))))) post f 0 I6)))))))))))))
set_option maxRecDepth 100000 in
set_option maxHeartbeats 4000000 in
theorem s_mX3_settleFilter {X : QX} {S : QS} {a1 : Int32} {a2 : Int32} {I : QI} {J : QJ} {post : Int32 → QI → Prop} {rec : Int32 → Int32 → QI → (Int32 → QI → Prop) → Prop} {D : Nat} (hD : 8 ≤ D) (hrec : ∀ (a1 a2 : Int32) (I : QI) (J : QJ) (post : Int32 → QI → Prop), rec a1 a2 I post → CX X mX3_settle D 0 0 [.ref 30, .int a1, .int a2] S I J (q_Pi S (fun r I2 J2 => J = J2 ∧ post r I2))) (hS : Sh S) (h : wX3_settleFilter rec a1 a2 I post) : CX X mX3_settleFilter (D + 1) 0 0 [.ref 30, .int a1, .int a2] S I J (q_Pi S (fun r I2 J2 => J = J2 ∧ post r I2)) := by
  refine CX.of (lo := [(0, .ref 30), (1, .int a1), (2, .int a2)]) ok_mX3_settleFilter rfl (Nat.le_of_ble_eq_true rfl) rfl ?_
  replace h : (wX3_empty (a2 + 1) I (fun I1 => (wX2_columnOf a1 I1 (fun r2 => (wX2_kindOf a1 I1 (fun r3 => (wX2_extraOf a1 I1 (fun r4 => (wX3_codeOf r2 r3 r4 I1 (fun r5 => (wX3_append (a2 + 1) r5 I1 (fun I6 => (∃ f : Nat, wX3_settleFilter_43 rec a1 a2 (fun I11 => (wX2_firstOf a1 I11 (fun r12 => (rec r12 (a2 + 1) I11 (fun r14 I13 => post r14 I13))))) post f 0 I6))))))))))))) := h
  refine V_aload_n dX3_settleFilter_0 rfl rfl ?_
  refine V_iload_n dX3_settleFilter_1 rfl rfl ?_
  refine V_iconst (v := 1) dX3_settleFilter_2 (by decide) ?_
  refine V_iadd dX3_settleFilter_3 ?_
  refine V_callVv (st := []) [.int (a2 + 1)] dX3_settleFilter_4 ok_mX3_empty rfl ml_RX3_44 in_mX3_empty se_mX3_empty (hS.n 30 rfl) (hS.k 30 3 rfl) (by decide) rfl (Nat.le_of_ble_eq_true rfl) (by omega) (by decide) (by decide) (s_mX3_empty hS h) (fun I1 J9 h => ?_)
  obtain ⟨rfl, h⟩ := h
  refine V_aload_n dX3_settleFilter_7 rfl rfl ?_
  refine V_iload_n dX3_settleFilter_8 rfl rfl ?_
  refine V_iconst (v := 1) dX3_settleFilter_9 (by decide) ?_
  refine V_iadd dX3_settleFilter_10 ?_
  refine V_aload_n dX3_settleFilter_11 rfl rfl ?_
  refine V_getr dX3_settleFilter_12 fl_RX3_11 (hS.n 30 rfl) (hS.k 30 3 rfl) rfl (hS.r 30 0 15 rfl) ?_
  refine V_iload_n dX3_settleFilter_15 rfl rfl ?_
  refine V_callVi (st := [.int (a2 + 1), .ref 30]) [.int a1] dX3_settleFilter_16 ok_mX2_columnOf rfl ml_RX3_75 in_mX2_columnOf se_mX2_columnOf (hS.n 15 rfl) (hS.k 15 2 rfl) (by decide) rfl (Nat.le_of_ble_eq_true rfl) (by omega) (by decide) (by decide) (s_mX2_columnOf hS h) (fun r2 I9 J9 h => ?_)
  obtain ⟨rfl, rfl, h⟩ := h
  refine V_aload_n dX3_settleFilter_19 rfl rfl ?_
  refine V_getr dX3_settleFilter_20 fl_RX3_11 (hS.n 30 rfl) (hS.k 30 3 rfl) rfl (hS.r 30 0 15 rfl) ?_
  refine V_iload_n dX3_settleFilter_23 rfl rfl ?_
  refine V_callVi (st := [.int r2, .int (a2 + 1), .ref 30]) [.int a1] dX3_settleFilter_24 ok_mX2_kindOf rfl ml_RX3_78 in_mX2_kindOf se_mX2_kindOf (hS.n 15 rfl) (hS.k 15 2 rfl) (by decide) rfl (Nat.le_of_ble_eq_true rfl) (by omega) (by decide) (by decide) (s_mX2_kindOf hS h) (fun r3 I9 J9 h => ?_)
  obtain ⟨rfl, rfl, h⟩ := h
  refine V_aload_n dX3_settleFilter_27 rfl rfl ?_
  refine V_getr dX3_settleFilter_28 fl_RX3_11 (hS.n 30 rfl) (hS.k 30 3 rfl) rfl (hS.r 30 0 15 rfl) ?_
  refine V_iload_n dX3_settleFilter_31 rfl rfl ?_
  refine V_callVi (st := [.int r3, .int r2, .int (a2 + 1), .ref 30]) [.int a1] dX3_settleFilter_32 ok_mX2_extraOf rfl ml_RX3_81 in_mX2_extraOf se_mX2_extraOf (hS.n 15 rfl) (hS.k 15 2 rfl) (by decide) rfl (Nat.le_of_ble_eq_true rfl) (by omega) (by decide) (by decide) (s_mX2_extraOf hS h) (fun r4 I9 J9 h => ?_)
  obtain ⟨rfl, rfl, h⟩ := h
  refine V_callSi (st := [.int (a2 + 1), .ref 30]) [.int r2, .int r3, .int r4] dX3_settleFilter_35 ok_mX3_codeOf rfl ml_RX3_84 st_mX3_codeOf (Nat.le_of_ble_eq_true rfl) (by omega) (by decide) (by decide) (s_mX3_codeOf hS h) (fun r5 I9 J9 h => ?_)
  obtain ⟨rfl, rfl, h⟩ := h
  refine V_callVv (st := []) [.int (a2 + 1), .int r5] dX3_settleFilter_38 ok_mX3_append rfl ml_RX3_88 in_mX3_append se_mX3_append (hS.n 30 rfl) (hS.k 30 3 rfl) (by decide) rfl (Nat.le_of_ble_eq_true rfl) (by omega) (by decide) (by decide) (s_mX3_append hS h) (fun I6 J9 h => ?_)
  obtain ⟨rfl, h⟩ := h
  refine V_iconst (v := 0) dX3_settleFilter_41 (by decide) ?_
  refine V_istore_n (lo2 := [(3, .int 0), (0, .ref 30), (1, .int a1), (2, .int a2)]) dX3_settleFilter_42 rfl (by decide) rfl ?_
  refine V_sub (lo2 := [(0, .ref 30), (1, .int a1), (2, .int a2), (3, .int 0)]) [1, 2, 3, 0] rfl ?_
  obtain ⟨f9, h⟩ := h
  refine swX3_settleFilter_43 hD hrec hS ?_ f9 _ _ h
  · intro I11 h
    refine V_aload_n dX3_settleFilter_71 rfl rfl ?_
    refine V_aload_n dX3_settleFilter_72 rfl rfl ?_
    refine V_getr dX3_settleFilter_73 fl_RX3_11 (hS.n 30 rfl) (hS.k 30 3 rfl) rfl (hS.r 30 0 15 rfl) ?_
    refine V_iload_n dX3_settleFilter_76 rfl rfl ?_
    refine V_callVi (st := [.ref 30]) [.int a1] dX3_settleFilter_77 ok_mX2_firstOf rfl ml_RX3_98 in_mX2_firstOf se_mX2_firstOf (hS.n 15 rfl) (hS.k 15 2 rfl) (by decide) rfl (Nat.le_of_ble_eq_true rfl) (by omega) (by decide) (by decide) (s_mX2_firstOf hS h) (fun r12 I9 J9 h => ?_)
    obtain ⟨rfl, rfl, h⟩ := h
    refine V_iload_n dX3_settleFilter_80 rfl rfl ?_
    refine V_iconst (v := 1) dX3_settleFilter_81 (by decide) ?_
    refine V_iadd dX3_settleFilter_82 ?_
    refine V_callVi (st := []) [.int r12, .int (a2 + 1)] dX3_settleFilter_83 ok_mX3_settle rfl ml_RX3_48 in_mX3_settle se_mX3_settle (hS.n 30 rfl) (hS.k 30 3 rfl) (by decide) rfl (Nat.le_of_ble_eq_true rfl) (by omega) (by decide) (by decide) (hrec _ _ _ _ _ h) (fun r14 I13 J9 h => ?_)
    obtain ⟨rfl, h⟩ := h
    exact V_iret dX3_settleFilter_86 rfl (by decide) (by decide) ⟨_, rfl, rfl, rfl, h⟩
def wX3_firstCodes (a1 : Int32) (I : QI) (post : Int32 → Prop) : Prop := (wX2_firstOf a1 I (fun r1 => (wX2_widthOf r1 I (fun r2 => post (r2 * 1194)))))
set_option maxRecDepth 100000 in
set_option maxHeartbeats 4000000 in
theorem s_mX3_firstCodes {X : QX} {S : QS} {a1 : Int32} {I : QI} {J : QJ} {post : Int32 → Prop} (hS : Sh S) (h : wX3_firstCodes a1 I post) : CX X mX3_firstCodes 1 0 0 [.ref 30, .int a1] S I J (q_Pi S (fun r I2 J2 => I = I2 ∧ J = J2 ∧ post r)) := by
  refine CX.of (lo := [(0, .ref 30), (1, .int a1)]) ok_mX3_firstCodes rfl (Nat.le_of_ble_eq_true rfl) rfl ?_
  replace h : (wX2_firstOf a1 I (fun r1 => (wX2_widthOf r1 I (fun r2 => post (r2 * 1194))))) := h
  refine V_aload_n dX3_firstCodes_0 rfl rfl ?_
  refine V_getr dX3_firstCodes_1 fl_RX3_11 (hS.n 30 rfl) (hS.k 30 3 rfl) rfl (hS.r 30 0 15 rfl) ?_
  refine V_aload_n dX3_firstCodes_4 rfl rfl ?_
  refine V_getr dX3_firstCodes_5 fl_RX3_11 (hS.n 30 rfl) (hS.k 30 3 rfl) rfl (hS.r 30 0 15 rfl) ?_
  refine V_iload_n dX3_firstCodes_8 rfl rfl ?_
  refine V_callVi (st := [.ref 15]) [.int a1] dX3_firstCodes_9 ok_mX2_firstOf rfl ml_RX3_98 in_mX2_firstOf se_mX2_firstOf (hS.n 15 rfl) (hS.k 15 2 rfl) (by decide) rfl (Nat.le_of_ble_eq_true rfl) (by decide) (by decide) (by decide) (s_mX2_firstOf hS h) (fun r1 I9 J9 h => ?_)
  obtain ⟨rfl, rfl, h⟩ := h
  refine V_callVi (st := []) [.int r1] dX3_firstCodes_12 ok_mX2_widthOf rfl ml_RX3_128 in_mX2_widthOf se_mX2_widthOf (hS.n 15 rfl) (hS.k 15 2 rfl) (by decide) rfl (Nat.le_of_ble_eq_true rfl) (by decide) (by decide) (by decide) (s_mX2_widthOf hS h) (fun r2 I9 J9 h => ?_)
  obtain ⟨rfl, rfl, h⟩ := h
  refine V_sipush (v := 1194) dX3_firstCodes_15 (by decide) ?_
  refine V_imul dX3_firstCodes_18 ?_
  exact V_iret dX3_firstCodes_19 rfl (by decide) (by decide) ⟨_, rfl, rfl, rfl, rfl, h⟩
def wX3_isFree (a1 : Int32) (a2 : Int32) (I : QI) (post : Int32 → Prop) : Prop := (wX2_typeOf a1 I (fun r1 => ((r1 = 2 → (wX2_kindOf a1 I (fun r2 => ((r2 = 0 → post 1) ∧ (¬ r2 = 0 → (wX3_firstCodes a1 I (fun r3 => ((r3 ≤ a2 → post 0) ∧ (¬ r3 ≤ a2 → post 1))))))))) ∧ (r1 = 4 → (wX2_kindOf a1 I (fun r4 => ((¬ r4 = 0 → post 0) ∧ (r4 = 0 → post 1))))) ∧ (¬ r1 = 2 → ¬ r1 = 4 → post 0))))
set_option maxRecDepth 100000 in
set_option maxHeartbeats 4000000 in
theorem s_mX3_isFree {X : QX} {S : QS} {a1 : Int32} {a2 : Int32} {I : QI} {J : QJ} {post : Int32 → Prop} (hS : Sh S) (h : wX3_isFree a1 a2 I post) : CX X mX3_isFree 2 0 0 [.ref 30, .int a1, .int a2] S I J (q_Pi S (fun r I2 J2 => I = I2 ∧ J = J2 ∧ post r)) := by
  refine CX.of (lo := [(0, .ref 30), (1, .int a1), (2, .int a2)]) ok_mX3_isFree rfl (Nat.le_of_ble_eq_true rfl) rfl ?_
  replace h : (wX2_typeOf a1 I (fun r1 => ((r1 = 2 → (wX2_kindOf a1 I (fun r2 => ((r2 = 0 → post 1) ∧ (¬ r2 = 0 → (wX3_firstCodes a1 I (fun r3 => ((r3 ≤ a2 → post 0) ∧ (¬ r3 ≤ a2 → post 1))))))))) ∧ (r1 = 4 → (wX2_kindOf a1 I (fun r4 => ((¬ r4 = 0 → post 0) ∧ (r4 = 0 → post 1))))) ∧ (¬ r1 = 2 → ¬ r1 = 4 → post 0)))) := h
  refine V_aload_n dX3_isFree_0 rfl rfl ?_
  refine V_getr dX3_isFree_1 fl_RX3_11 (hS.n 30 rfl) (hS.k 30 3 rfl) rfl (hS.r 30 0 15 rfl) ?_
  refine V_iload_n dX3_isFree_4 rfl rfl ?_
  refine V_callVi (st := []) [.int a1] dX3_isFree_5 ok_mX2_typeOf rfl ml_RX3_65 in_mX2_typeOf se_mX2_typeOf (hS.n 15 rfl) (hS.k 15 2 rfl) (by decide) rfl (Nat.le_of_ble_eq_true rfl) (by decide) (by decide) (by decide) (s_mX2_typeOf hS h) (fun r1 I9 J9 h => ?_)
  obtain ⟨rfl, rfl, h⟩ := h
  by_cases hc0 : r1 = 2
  · replace h := h.1 hc0
    refine V_lookup 36 dX3_isFree_8 (by decide) (by rw [hc0]; first | done | rfl) rfl ?_
    refine V_aload_n dX3_isFree_36 rfl rfl ?_
    refine V_getr dX3_isFree_37 fl_RX3_11 (hS.n 30 rfl) (hS.k 30 3 rfl) rfl (hS.r 30 0 15 rfl) ?_
    refine V_iload_n dX3_isFree_40 rfl rfl ?_
    refine V_callVi (st := []) [.int a1] dX3_isFree_41 ok_mX2_kindOf rfl ml_RX3_78 in_mX2_kindOf se_mX2_kindOf (hS.n 15 rfl) (hS.k 15 2 rfl) (by decide) rfl (Nat.le_of_ble_eq_true rfl) (by decide) (by decide) (by decide) (s_mX2_kindOf hS h) (fun r2 I9 J9 h => ?_)
    obtain ⟨rfl, rfl, h⟩ := h
    refine V_if_eq 56 dX3_isFree_44 rfl (fun hc => ?_) (fun hc => ?_)
    · replace h := h.1 hc
      refine V_iconst (v := 1) dX3_isFree_56 (by decide) ?_
      refine V_goto 61 dX3_isFree_57 rfl ?_
      exact V_zret dX3_isFree_61 rfl (by decide) (by decide) (by decide) ⟨_, rfl, rfl, rfl, rfl, h⟩
    · replace h := h.2 hc
      refine V_iload_n dX3_isFree_47 rfl rfl ?_
      refine V_aload_n dX3_isFree_48 rfl rfl ?_
      refine V_iload_n dX3_isFree_49 rfl rfl ?_
      refine V_callVi (st := [.int a2]) [.int a1] dX3_isFree_50 ok_mX3_firstCodes rfl ml_RX3_125 in_mX3_firstCodes se_mX3_firstCodes (hS.n 30 rfl) (hS.k 30 3 rfl) (by decide) rfl (Nat.le_of_ble_eq_true rfl) (by decide) (by decide) (by decide) (s_mX3_firstCodes hS h) (fun r3 I9 J9 h => ?_)
      obtain ⟨rfl, rfl, h⟩ := h
      refine V_icmp_ge 60 dX3_isFree_53 rfl (fun hc => ?_) (fun hc => ?_)
      · replace h := h.1 hc
        refine V_iconst (v := 0) dX3_isFree_60 (by decide) ?_
        exact V_zret dX3_isFree_61 rfl (by decide) (by decide) (by decide) ⟨_, rfl, rfl, rfl, rfl, h⟩
      · replace h := h.2 hc
        refine V_iconst (v := 1) dX3_isFree_56 (by decide) ?_
        refine V_goto 61 dX3_isFree_57 rfl ?_
        exact V_zret dX3_isFree_61 rfl (by decide) (by decide) (by decide) ⟨_, rfl, rfl, rfl, rfl, h⟩
  by_cases hc1 : r1 = 4
  · replace h := h.2.1 hc1
    refine V_lookup 62 dX3_isFree_8 (by decide) (by rw [hc1]; first | done | rfl) rfl ?_
    refine V_aload_n dX3_isFree_62 rfl rfl ?_
    refine V_getr dX3_isFree_63 fl_RX3_11 (hS.n 30 rfl) (hS.k 30 3 rfl) rfl (hS.r 30 0 15 rfl) ?_
    refine V_iload_n dX3_isFree_66 rfl rfl ?_
    refine V_callVi (st := []) [.int a1] dX3_isFree_67 ok_mX2_kindOf rfl ml_RX3_78 in_mX2_kindOf se_mX2_kindOf (hS.n 15 rfl) (hS.k 15 2 rfl) (by decide) rfl (Nat.le_of_ble_eq_true rfl) (by decide) (by decide) (by decide) (s_mX2_kindOf hS h) (fun r4 I9 J9 h => ?_)
    obtain ⟨rfl, rfl, h⟩ := h
    refine V_if_ne 77 dX3_isFree_70 rfl (fun hc => ?_) (fun hc => ?_)
    · replace h := h.1 hc
      refine V_iconst (v := 0) dX3_isFree_77 (by decide) ?_
      exact V_zret dX3_isFree_78 rfl (by decide) (by decide) (by decide) ⟨_, rfl, rfl, rfl, rfl, h⟩
    · replace h := h.2 hc
      refine V_iconst (v := 1) dX3_isFree_73 (by decide) ?_
      refine V_goto 78 dX3_isFree_74 rfl ?_
      exact V_zret dX3_isFree_78 rfl (by decide) (by decide) (by decide) ⟨_, rfl, rfl, rfl, rfl, h⟩
  replace h := h.2.2 hc0 hc1
  have n0 := q_tsw (c := 2) hc0 (by decide) (by decide)
  have n1 := q_tsw (c := 4) hc1 (by decide) (by decide)
  refine V_lookup 79 dX3_isFree_8 (by decide) (off := 71) (by simp [Op.lookupswitch.offset, n0, Ne.symm n0, n1, Ne.symm n1]) rfl ?_
  refine V_iconst (v := 0) dX3_isFree_79 (by decide) ?_
  exact V_zret dX3_isFree_80 rfl (by decide) (by decide) (by decide) ⟨_, rfl, rfl, rfl, rfl, h⟩
def wX3_countFree_2 (a1 : Int32) (a2 : Int32) (I : QI) (post : Int32 → Prop) : Nat → Int32 → Prop
  | 0, _ => False
  | n + 1, x3 => (wX3_lengthOf a2 I (fun r1 => ((r1 ≤ x3 → post x3) ∧ (¬ r1 ≤ x3 → (wX3_codeAt a2 x3 I (fun r2 => (wX3_isFree a1 r2 I (fun r3 => ((r3 = 0 → post x3) ∧ (¬ r3 = 0 → (∀ v4 : Int32, v4 = (x3 + 1) → (wX3_countFree_2 a1 a2 I post n v4))))))))))))
set_option maxRecDepth 100000 in
set_option maxHeartbeats 4000000 in
theorem swX3_countFree_2 {X : QX} {S : QS} {a1 : Int32} {a2 : Int32} {I : QI} {J : QJ} {post : Int32 → Prop} (hS : Sh S) : ∀ (f : Nat) (x3 : Int32), wX3_countFree_2 a1 a2 I post f x3 → V X mX3_countFree 3 0 0 (q_Pi S (fun r I2 J2 => I = I2 ∧ J = J2 ∧ post r)) 2 [(0, .ref 30), (1, .int a1), (2, .int a2), (3, .int x3)] [] S I J 0 0 := by
  intro f
  induction f with
  | zero => intro x3 h; exact h.elim
  | succ n ih =>
    intro x3 h
    replace h : (wX3_lengthOf a2 I (fun r1 => ((r1 ≤ x3 → post x3) ∧ (¬ r1 ≤ x3 → (wX3_codeAt a2 x3 I (fun r2 => (wX3_isFree a1 r2 I (fun r3 => ((r3 = 0 → post x3) ∧ (¬ r3 = 0 → (∀ v4 : Int32, v4 = (x3 + 1) → (wX3_countFree_2 a1 a2 I post n v4)))))))))))) := h
    refine V_iload_n dX3_countFree_2 rfl rfl ?_
    refine V_aload_n dX3_countFree_3 rfl rfl ?_
    refine V_iload_n dX3_countFree_4 rfl rfl ?_
    refine V_callVi (st := [.int x3]) [.int a2] dX3_countFree_5 ok_mX3_lengthOf rfl ml_RX3_92 in_mX3_lengthOf se_mX3_lengthOf (hS.n 30 rfl) (hS.k 30 3 rfl) (by decide) rfl (Nat.le_of_ble_eq_true rfl) (by decide) (by decide) (by decide) (s_mX3_lengthOf hS h) (fun r1 I9 J9 h => ?_)
    obtain ⟨rfl, rfl, h⟩ := h
    refine V_icmp_ge 31 dX3_countFree_8 rfl (fun hc => ?_) (fun hc => ?_)
    · replace h := h.1 hc
      refine V_iload_n dX3_countFree_31 rfl rfl ?_
      exact V_iret dX3_countFree_32 rfl (by decide) (by decide) ⟨_, rfl, rfl, rfl, rfl, h⟩
    · replace h := h.2 hc
      refine V_aload_n dX3_countFree_11 rfl rfl ?_
      refine V_iload_n dX3_countFree_12 rfl rfl ?_
      refine V_aload_n dX3_countFree_13 rfl rfl ?_
      refine V_iload_n dX3_countFree_14 rfl rfl ?_
      refine V_iload_n dX3_countFree_15 rfl rfl ?_
      refine V_callVi (st := [.int a1, .ref 30]) [.int a2, .int x3] dX3_countFree_16 ok_mX3_codeAt rfl ml_RX3_95 in_mX3_codeAt se_mX3_codeAt (hS.n 30 rfl) (hS.k 30 3 rfl) (by decide) rfl (Nat.le_of_ble_eq_true rfl) (by decide) (by decide) (by decide) (s_mX3_codeAt hS h) (fun r2 I9 J9 h => ?_)
      obtain ⟨rfl, rfl, h⟩ := h
      refine V_callVi (st := []) [.int a1, .int r2] dX3_countFree_19 ok_mX3_isFree rfl ml_RX3_121 in_mX3_isFree se_mX3_isFree (hS.n 30 rfl) (hS.k 30 3 rfl) (by decide) rfl (Nat.le_of_ble_eq_true rfl) (by decide) (by decide) (by decide) (s_mX3_isFree hS h) (fun r3 I9 J9 h => ?_)
      obtain ⟨rfl, rfl, h⟩ := h
      refine V_if_eq 31 dX3_countFree_22 rfl (fun hc => ?_) (fun hc => ?_)
      · replace h := h.1 hc
        refine V_iload_n dX3_countFree_31 rfl rfl ?_
        exact V_iret dX3_countFree_32 rfl (by decide) (by decide) ⟨_, rfl, rfl, rfl, rfl, h⟩
      · replace h := h.2 hc
        obtain ⟨v4, e_v4⟩ : ∃ z : Int32, z = (x3 + 1) := ⟨_, rfl⟩
        replace h := h v4 e_v4
        refine V_iinc (lo2 := [(3, .int v4), (0, .ref 30), (1, .int a1), (2, .int a2)]) 3 dX3_countFree_25 rfl (v := v4) (by rw [e_v4]; first | done | rfl) (by decide) rfl ?_
        refine V_goto 2 dX3_countFree_28 rfl ?_
        refine V_sub (lo2 := [(0, .ref 30), (1, .int a1), (2, .int a2), (3, .int v4)]) [1, 2, 3, 0] rfl ?_
        exact ih _ h
def wX3_countFree (a1 : Int32) (a2 : Int32) (I : QI) (post : Int32 → Prop) : Prop := (∃ f : Nat, wX3_countFree_2 a1 a2 I post f 0)
set_option maxRecDepth 100000 in
set_option maxHeartbeats 4000000 in
theorem s_mX3_countFree {X : QX} {S : QS} {a1 : Int32} {a2 : Int32} {I : QI} {J : QJ} {post : Int32 → Prop} (hS : Sh S) (h : wX3_countFree a1 a2 I post) : CX X mX3_countFree 3 0 0 [.ref 30, .int a1, .int a2] S I J (q_Pi S (fun r I2 J2 => I = I2 ∧ J = J2 ∧ post r)) := by
  refine CX.of (lo := [(0, .ref 30), (1, .int a1), (2, .int a2)]) ok_mX3_countFree rfl (Nat.le_of_ble_eq_true rfl) rfl ?_
  replace h : (∃ f : Nat, wX3_countFree_2 a1 a2 I post f 0) := h
  refine V_iconst (v := 0) dX3_countFree_0 (by decide) ?_
  refine V_istore_n (lo2 := [(3, .int 0), (0, .ref 30), (1, .int a1), (2, .int a2)]) dX3_countFree_1 rfl (by decide) rfl ?_
  refine V_sub (lo2 := [(0, .ref 30), (1, .int a1), (2, .int a2), (3, .int 0)]) [1, 2, 3, 0] rfl ?_
  obtain ⟨f9, h⟩ := h
  refine swX3_countFree_2 hS f9 _ h
def wX3_passToFirst_29 (a1 : Int32) (a2 : Int32) (a3 : Int32) (post : QI → Prop) : Nat → Int32 → Int32 → QI → Prop
  | 0, _, _, _ => False
  | n + 1, x4, x5, I => ((a3 ≤ x5 → post I) ∧ (¬ a3 ≤ x5 → (wX3_codeAt a2 x5 I (fun r3 => ((¬ x4 = 0 → (wX3_append (a2 + 1) r3 I (fun I4 => (∀ v5 : Int32, v5 = (x5 + 1) → (wX3_passToFirst_29 a1 a2 a3 post n x4 v5 I4))))) ∧ (x4 = 0 → (wX3_firstCodes a1 I (fun r6 => ((r6 ≤ r3 → (∀ v7 : Int32, v7 = (x5 + 1) → (wX3_passToFirst_29 a1 a2 a3 post n x4 v7 I))) ∧ (¬ r6 ≤ r3 → (wX3_append (a2 + 1) r3 I (fun I8 => (∀ v9 : Int32, v9 = (x5 + 1) → (wX3_passToFirst_29 a1 a2 a3 post n x4 v9 I8))))))))))))))
set_option maxRecDepth 100000 in
set_option maxHeartbeats 4000000 in
theorem swX3_passToFirst_29 {X : QX} {S : QS} {a1 : Int32} {a2 : Int32} {a3 : Int32} {J : QJ} {post : QI → Prop} (hS : Sh S) : ∀ (f : Nat) (x4 : Int32) (x5 : Int32) (I : QI), wX3_passToFirst_29 a1 a2 a3 post f x4 x5 I → V X mX3_passToFirst 3 0 0 (q_Pv S (fun I2 J2 => J = J2 ∧ post I2)) 29 [(0, .ref 30), (1, .int a1), (2, .int a2), (3, .int a3), (4, .int x4), (5, .int x5)] [] S I J 0 0 := by
  intro f
  induction f with
  | zero => intro x4 x5 I h; exact h.elim
  | succ n ih =>
    intro x4 x5 I h
    replace h : ((a3 ≤ x5 → post I) ∧ (¬ a3 ≤ x5 → (wX3_codeAt a2 x5 I (fun r3 => ((¬ x4 = 0 → (wX3_append (a2 + 1) r3 I (fun I4 => (∀ v5 : Int32, v5 = (x5 + 1) → (wX3_passToFirst_29 a1 a2 a3 post n x4 v5 I4))))) ∧ (x4 = 0 → (wX3_firstCodes a1 I (fun r6 => ((r6 ≤ r3 → (∀ v7 : Int32, v7 = (x5 + 1) → (wX3_passToFirst_29 a1 a2 a3 post n x4 v7 I))) ∧ (¬ r6 ≤ r3 → (wX3_append (a2 + 1) r3 I (fun I8 => (∀ v9 : Int32, v9 = (x5 + 1) → (wX3_passToFirst_29 a1 a2 a3 post n x4 v9 I8)))))))))))))) := h
    refine V_iload dX3_passToFirst_29 rfl ?_
    refine V_iload_n dX3_passToFirst_31 rfl rfl ?_
    refine V_icmp_ge 74 dX3_passToFirst_32 rfl (fun hc => ?_) (fun hc => ?_)
    · replace h := h.1 hc
      exact V_vret dX3_passToFirst_74 rfl (by decide) (by decide) ⟨rfl, rfl, rfl, h⟩
    · replace h := h.2 hc
      refine V_aload_n dX3_passToFirst_35 rfl rfl ?_
      refine V_iload_n dX3_passToFirst_36 rfl rfl ?_
      refine V_iload dX3_passToFirst_37 rfl ?_
      refine V_callVi (st := []) [.int a2, .int x5] dX3_passToFirst_39 ok_mX3_codeAt rfl ml_RX3_95 in_mX3_codeAt se_mX3_codeAt (hS.n 30 rfl) (hS.k 30 3 rfl) (by decide) rfl (Nat.le_of_ble_eq_true rfl) (by decide) (by decide) (by decide) (s_mX3_codeAt hS h) (fun r3 I9 J9 h => ?_)
      obtain ⟨rfl, rfl, h⟩ := h
      refine V_istore (lo2 := [(6, .int r3), (0, .ref 30), (1, .int a1), (2, .int a2), (3, .int a3), (4, .int x4), (5, .int x5)]) dX3_passToFirst_42 (by decide) rfl ?_
      refine V_iload dX3_passToFirst_44 rfl ?_
      refine V_if_ne 59 dX3_passToFirst_46 rfl (fun hc => ?_) (fun hc => ?_)
      · replace h := h.1 hc
        refine V_aload_n dX3_passToFirst_59 rfl rfl ?_
        refine V_iload_n dX3_passToFirst_60 rfl rfl ?_
        refine V_iconst (v := 1) dX3_passToFirst_61 (by decide) ?_
        refine V_iadd dX3_passToFirst_62 ?_
        refine V_iload dX3_passToFirst_63 rfl ?_
        refine V_callVv (st := []) [.int (a2 + 1), .int r3] dX3_passToFirst_65 ok_mX3_append rfl ml_RX3_88 in_mX3_append se_mX3_append (hS.n 30 rfl) (hS.k 30 3 rfl) (by decide) rfl (Nat.le_of_ble_eq_true rfl) (by decide) (by decide) (by decide) (s_mX3_append hS h) (fun I4 J9 h => ?_)
        obtain ⟨rfl, h⟩ := h
        obtain ⟨v5, e_v5⟩ : ∃ z : Int32, z = (x5 + 1) := ⟨_, rfl⟩
        replace h := h v5 e_v5
        refine V_iinc (lo2 := [(5, .int v5), (6, .int r3), (0, .ref 30), (1, .int a1), (2, .int a2), (3, .int a3), (4, .int x4)]) 6 dX3_passToFirst_68 rfl (v := v5) (by rw [e_v5]; first | done | rfl) (by decide) rfl ?_
        refine V_goto 29 dX3_passToFirst_71 rfl ?_
        refine V_sub (lo2 := [(0, .ref 30), (1, .int a1), (2, .int a2), (3, .int a3), (4, .int x4), (5, .int v5)]) [2, 3, 4, 5, 6, 0] rfl ?_
        exact ih _ _ _ h
      · replace h := h.2 hc
        refine V_iload dX3_passToFirst_49 rfl ?_
        refine V_aload_n dX3_passToFirst_51 rfl rfl ?_
        refine V_iload_n dX3_passToFirst_52 rfl rfl ?_
        refine V_callVi (st := [.int r3]) [.int a1] dX3_passToFirst_53 ok_mX3_firstCodes rfl ml_RX3_125 in_mX3_firstCodes se_mX3_firstCodes (hS.n 30 rfl) (hS.k 30 3 rfl) (by decide) rfl (Nat.le_of_ble_eq_true rfl) (by decide) (by decide) (by decide) (s_mX3_firstCodes hS h) (fun r6 I9 J9 h => ?_)
        obtain ⟨rfl, rfl, h⟩ := h
        refine V_icmp_ge 68 dX3_passToFirst_56 rfl (fun hc => ?_) (fun hc => ?_)
        · replace h := h.1 hc
          obtain ⟨v7, e_v7⟩ : ∃ z : Int32, z = (x5 + 1) := ⟨_, rfl⟩
          replace h := h v7 e_v7
          refine V_iinc (lo2 := [(5, .int v7), (6, .int r3), (0, .ref 30), (1, .int a1), (2, .int a2), (3, .int a3), (4, .int x4)]) 6 dX3_passToFirst_68 rfl (v := v7) (by rw [e_v7]; first | done | rfl) (by decide) rfl ?_
          refine V_goto 29 dX3_passToFirst_71 rfl ?_
          refine V_sub (lo2 := [(0, .ref 30), (1, .int a1), (2, .int a2), (3, .int a3), (4, .int x4), (5, .int v7)]) [2, 3, 4, 5, 6, 0] rfl ?_
          exact ih _ _ _ h
        · replace h := h.2 hc
          refine V_aload_n dX3_passToFirst_59 rfl rfl ?_
          refine V_iload_n dX3_passToFirst_60 rfl rfl ?_
          refine V_iconst (v := 1) dX3_passToFirst_61 (by decide) ?_
          refine V_iadd dX3_passToFirst_62 ?_
          refine V_iload dX3_passToFirst_63 rfl ?_
          refine V_callVv (st := []) [.int (a2 + 1), .int r3] dX3_passToFirst_65 ok_mX3_append rfl ml_RX3_88 in_mX3_append se_mX3_append (hS.n 30 rfl) (hS.k 30 3 rfl) (by decide) rfl (Nat.le_of_ble_eq_true rfl) (by decide) (by decide) (by decide) (s_mX3_append hS h) (fun I8 J9 h => ?_)
          obtain ⟨rfl, h⟩ := h
          obtain ⟨v9, e_v9⟩ : ∃ z : Int32, z = (x5 + 1) := ⟨_, rfl⟩
          replace h := h v9 e_v9
          refine V_iinc (lo2 := [(5, .int v9), (6, .int r3), (0, .ref 30), (1, .int a1), (2, .int a2), (3, .int a3), (4, .int x4)]) 6 dX3_passToFirst_68 rfl (v := v9) (by rw [e_v9]; first | done | rfl) (by decide) rfl ?_
          refine V_goto 29 dX3_passToFirst_71 rfl ?_
          refine V_sub (lo2 := [(0, .ref 30), (1, .int a1), (2, .int a2), (3, .int a3), (4, .int x4), (5, .int v9)]) [2, 3, 4, 5, 6, 0] rfl ?_
          exact ih _ _ _ h
def wX3_passToFirst (a1 : Int32) (a2 : Int32) (a3 : Int32) (I : QI) (post : QI → Prop) : Prop := (wX2_typeOf a1 I (fun r1 => ((¬ r1 = 4 → (wX3_empty (a2 + 1) I (fun I2 => (∃ f : Nat, wX3_passToFirst_29 a1 a2 a3 post f 0 0 I2)))) ∧ (r1 = 4 → (wX3_empty (a2 + 1) I (fun I10 => (∃ f : Nat, wX3_passToFirst_29 a1 a2 a3 post f 1 0 I10)))))))
set_option maxRecDepth 100000 in
set_option maxHeartbeats 4000000 in
theorem s_mX3_passToFirst {X : QX} {S : QS} {a1 : Int32} {a2 : Int32} {a3 : Int32} {I : QI} {J : QJ} {post : QI → Prop} (hS : Sh S) (h : wX3_passToFirst a1 a2 a3 I post) : CX X mX3_passToFirst 3 0 0 [.ref 30, .int a1, .int a2, .int a3] S I J (q_Pv S (fun I2 J2 => J = J2 ∧ post I2)) := by
  refine CX.of (lo := [(0, .ref 30), (1, .int a1), (2, .int a2), (3, .int a3)]) ok_mX3_passToFirst rfl (Nat.le_of_ble_eq_true rfl) rfl ?_
  replace h : (wX2_typeOf a1 I (fun r1 => ((¬ r1 = 4 → (wX3_empty (a2 + 1) I (fun I2 => (∃ f : Nat, wX3_passToFirst_29 a1 a2 a3 post f 0 0 I2)))) ∧ (r1 = 4 → (wX3_empty (a2 + 1) I (fun I10 => (∃ f : Nat, wX3_passToFirst_29 a1 a2 a3 post f 1 0 I10))))))) := h
  refine V_aload_n dX3_passToFirst_0 rfl rfl ?_
  refine V_getr dX3_passToFirst_1 fl_RX3_11 (hS.n 30 rfl) (hS.k 30 3 rfl) rfl (hS.r 30 0 15 rfl) ?_
  refine V_iload_n dX3_passToFirst_4 rfl rfl ?_
  refine V_callVi (st := []) [.int a1] dX3_passToFirst_5 ok_mX2_typeOf rfl ml_RX3_65 in_mX2_typeOf se_mX2_typeOf (hS.n 15 rfl) (hS.k 15 2 rfl) (by decide) rfl (Nat.le_of_ble_eq_true rfl) (by decide) (by decide) (by decide) (s_mX2_typeOf hS h) (fun r1 I9 J9 h => ?_)
  obtain ⟨rfl, rfl, h⟩ := h
  refine V_iconst (v := 4) dX3_passToFirst_8 (by decide) ?_
  refine V_icmp_ne 16 dX3_passToFirst_9 rfl (fun hc => ?_) (fun hc => ?_)
  · replace h := h.1 hc
    refine V_iconst (v := 0) dX3_passToFirst_16 (by decide) ?_
    refine V_istore (lo2 := [(4, .int 0), (0, .ref 30), (1, .int a1), (2, .int a2), (3, .int a3)]) dX3_passToFirst_17 (by decide) rfl ?_
    refine V_aload_n dX3_passToFirst_19 rfl rfl ?_
    refine V_iload_n dX3_passToFirst_20 rfl rfl ?_
    refine V_iconst (v := 1) dX3_passToFirst_21 (by decide) ?_
    refine V_iadd dX3_passToFirst_22 ?_
    refine V_callVv (st := []) [.int (a2 + 1)] dX3_passToFirst_23 ok_mX3_empty rfl ml_RX3_44 in_mX3_empty se_mX3_empty (hS.n 30 rfl) (hS.k 30 3 rfl) (by decide) rfl (Nat.le_of_ble_eq_true rfl) (by decide) (by decide) (by decide) (s_mX3_empty hS h) (fun I2 J9 h => ?_)
    obtain ⟨rfl, h⟩ := h
    refine V_iconst (v := 0) dX3_passToFirst_26 (by decide) ?_
    refine V_istore (lo2 := [(5, .int 0), (4, .int 0), (0, .ref 30), (1, .int a1), (2, .int a2), (3, .int a3)]) dX3_passToFirst_27 (by decide) rfl ?_
    refine V_sub (lo2 := [(0, .ref 30), (1, .int a1), (2, .int a2), (3, .int a3), (4, .int 0), (5, .int 0)]) [2, 3, 4, 5, 1, 0] rfl ?_
    obtain ⟨f9, h⟩ := h
    refine swX3_passToFirst_29 hS f9 _ _ _ h
  · replace h := h.2 hc
    refine V_iconst (v := 1) dX3_passToFirst_12 (by decide) ?_
    refine V_goto 17 dX3_passToFirst_13 rfl ?_
    refine V_istore (lo2 := [(4, .int 1), (0, .ref 30), (1, .int a1), (2, .int a2), (3, .int a3)]) dX3_passToFirst_17 (by decide) rfl ?_
    refine V_aload_n dX3_passToFirst_19 rfl rfl ?_
    refine V_iload_n dX3_passToFirst_20 rfl rfl ?_
    refine V_iconst (v := 1) dX3_passToFirst_21 (by decide) ?_
    refine V_iadd dX3_passToFirst_22 ?_
    refine V_callVv (st := []) [.int (a2 + 1)] dX3_passToFirst_23 ok_mX3_empty rfl ml_RX3_44 in_mX3_empty se_mX3_empty (hS.n 30 rfl) (hS.k 30 3 rfl) (by decide) rfl (Nat.le_of_ble_eq_true rfl) (by decide) (by decide) (by decide) (s_mX3_empty hS h) (fun I10 J9 h => ?_)
    obtain ⟨rfl, h⟩ := h
    refine V_iconst (v := 0) dX3_passToFirst_26 (by decide) ?_
    refine V_istore (lo2 := [(5, .int 0), (4, .int 1), (0, .ref 30), (1, .int a1), (2, .int a2), (3, .int a3)]) dX3_passToFirst_27 (by decide) rfl ?_
    refine V_sub (lo2 := [(0, .ref 30), (1, .int a1), (2, .int a2), (3, .int a3), (4, .int 1), (5, .int 0)]) [2, 3, 4, 5, 1, 0] rfl ?_
    obtain ⟨f9, h⟩ := h
    refine swX3_passToFirst_29 hS f9 _ _ _ h
def wX3_passToSecond_29 (a1 : Int32) (a2 : Int32) (a3 : Int32) (post : QI → Prop) : Nat → Int32 → Int32 → QI → Prop
  | 0, _, _, _ => False
  | n + 1, x4, x5, I => ((a3 ≤ x5 → post I) ∧ (¬ a3 ≤ x5 → (wX3_codeAt a2 x5 I (fun r3 => ((x4 = 0 → (wX3_firstCodes a1 I (fun r4 => ((r3 < r4 → (∀ v5 : Int32, v5 = (x5 + 1) → (wX3_passToSecond_29 a1 a2 a3 post n x4 v5 I))) ∧ (¬ r3 < r4 → (wX3_firstCodes a1 I (fun r6 => (wX3_append (a2 + 1) (r3 - r6) I (fun I7 => (∀ v8 : Int32, v8 = (x5 + 1) → (wX3_passToSecond_29 a1 a2 a3 post n x4 v8 I7))))))))))) ∧ (¬ x4 = 0 → (wX3_append (a2 + 1) r3 I (fun I9 => (∀ v10 : Int32, v10 = (x5 + 1) → (wX3_passToSecond_29 a1 a2 a3 post n x4 v10 I9))))))))))
set_option maxRecDepth 100000 in
set_option maxHeartbeats 4000000 in
theorem swX3_passToSecond_29 {X : QX} {S : QS} {a1 : Int32} {a2 : Int32} {a3 : Int32} {J : QJ} {post : QI → Prop} (hS : Sh S) : ∀ (f : Nat) (x4 : Int32) (x5 : Int32) (I : QI), wX3_passToSecond_29 a1 a2 a3 post f x4 x5 I → V X mX3_passToSecond 3 0 0 (q_Pv S (fun I2 J2 => J = J2 ∧ post I2)) 29 [(0, .ref 30), (1, .int a1), (2, .int a2), (3, .int a3), (4, .int x4), (5, .int x5)] [] S I J 0 0 := by
  intro f
  induction f with
  | zero => intro x4 x5 I h; exact h.elim
  | succ n ih =>
    intro x4 x5 I h
    replace h : ((a3 ≤ x5 → post I) ∧ (¬ a3 ≤ x5 → (wX3_codeAt a2 x5 I (fun r3 => ((x4 = 0 → (wX3_firstCodes a1 I (fun r4 => ((r3 < r4 → (∀ v5 : Int32, v5 = (x5 + 1) → (wX3_passToSecond_29 a1 a2 a3 post n x4 v5 I))) ∧ (¬ r3 < r4 → (wX3_firstCodes a1 I (fun r6 => (wX3_append (a2 + 1) (r3 - r6) I (fun I7 => (∀ v8 : Int32, v8 = (x5 + 1) → (wX3_passToSecond_29 a1 a2 a3 post n x4 v8 I7))))))))))) ∧ (¬ x4 = 0 → (wX3_append (a2 + 1) r3 I (fun I9 => (∀ v10 : Int32, v10 = (x5 + 1) → (wX3_passToSecond_29 a1 a2 a3 post n x4 v10 I9)))))))))) := h
    refine V_iload dX3_passToSecond_29 rfl ?_
    refine V_iload_n dX3_passToSecond_31 rfl rfl ?_
    refine V_icmp_ge 92 dX3_passToSecond_32 rfl (fun hc => ?_) (fun hc => ?_)
    · replace h := h.1 hc
      exact V_vret dX3_passToSecond_92 rfl (by decide) (by decide) ⟨rfl, rfl, rfl, h⟩
    · replace h := h.2 hc
      refine V_aload_n dX3_passToSecond_35 rfl rfl ?_
      refine V_iload_n dX3_passToSecond_36 rfl rfl ?_
      refine V_iload dX3_passToSecond_37 rfl ?_
      refine V_callVi (st := []) [.int a2, .int x5] dX3_passToSecond_39 ok_mX3_codeAt rfl ml_RX3_95 in_mX3_codeAt se_mX3_codeAt (hS.n 30 rfl) (hS.k 30 3 rfl) (by decide) rfl (Nat.le_of_ble_eq_true rfl) (by decide) (by decide) (by decide) (s_mX3_codeAt hS h) (fun r3 I9 J9 h => ?_)
      obtain ⟨rfl, rfl, h⟩ := h
      refine V_istore (lo2 := [(6, .int r3), (0, .ref 30), (1, .int a1), (2, .int a2), (3, .int a3), (4, .int x4), (5, .int x5)]) dX3_passToSecond_42 (by decide) rfl ?_
      refine V_iload dX3_passToSecond_44 rfl ?_
      refine V_if_eq 61 dX3_passToSecond_46 rfl (fun hc => ?_) (fun hc => ?_)
      · replace h := h.1 hc
        refine V_iload dX3_passToSecond_61 rfl ?_
        refine V_aload_n dX3_passToSecond_63 rfl rfl ?_
        refine V_iload_n dX3_passToSecond_64 rfl rfl ?_
        refine V_callVi (st := [.int r3]) [.int a1] dX3_passToSecond_65 ok_mX3_firstCodes rfl ml_RX3_125 in_mX3_firstCodes se_mX3_firstCodes (hS.n 30 rfl) (hS.k 30 3 rfl) (by decide) rfl (Nat.le_of_ble_eq_true rfl) (by decide) (by decide) (by decide) (s_mX3_firstCodes hS h) (fun r4 I9 J9 h => ?_)
        obtain ⟨rfl, rfl, h⟩ := h
        refine V_icmp_lt 86 dX3_passToSecond_68 rfl (fun hc => ?_) (fun hc => ?_)
        · replace h := h.1 hc
          obtain ⟨v5, e_v5⟩ : ∃ z : Int32, z = (x5 + 1) := ⟨_, rfl⟩
          replace h := h v5 e_v5
          refine V_iinc (lo2 := [(5, .int v5), (6, .int r3), (0, .ref 30), (1, .int a1), (2, .int a2), (3, .int a3), (4, .int x4)]) 6 dX3_passToSecond_86 rfl (v := v5) (by rw [e_v5]; first | done | rfl) (by decide) rfl ?_
          refine V_goto 29 dX3_passToSecond_89 rfl ?_
          refine V_sub (lo2 := [(0, .ref 30), (1, .int a1), (2, .int a2), (3, .int a3), (4, .int x4), (5, .int v5)]) [2, 3, 4, 5, 6, 0] rfl ?_
          exact ih _ _ _ h
        · replace h := h.2 hc
          refine V_aload_n dX3_passToSecond_71 rfl rfl ?_
          refine V_iload_n dX3_passToSecond_72 rfl rfl ?_
          refine V_iconst (v := 1) dX3_passToSecond_73 (by decide) ?_
          refine V_iadd dX3_passToSecond_74 ?_
          refine V_iload dX3_passToSecond_75 rfl ?_
          refine V_aload_n dX3_passToSecond_77 rfl rfl ?_
          refine V_iload_n dX3_passToSecond_78 rfl rfl ?_
          refine V_callVi (st := [.int r3, .int (a2 + 1), .ref 30]) [.int a1] dX3_passToSecond_79 ok_mX3_firstCodes rfl ml_RX3_125 in_mX3_firstCodes se_mX3_firstCodes (hS.n 30 rfl) (hS.k 30 3 rfl) (by decide) rfl (Nat.le_of_ble_eq_true rfl) (by decide) (by decide) (by decide) (s_mX3_firstCodes hS h) (fun r6 I9 J9 h => ?_)
          obtain ⟨rfl, rfl, h⟩ := h
          refine V_isub dX3_passToSecond_82 ?_
          refine V_callVv (st := []) [.int (a2 + 1), .int (r3 - r6)] dX3_passToSecond_83 ok_mX3_append rfl ml_RX3_88 in_mX3_append se_mX3_append (hS.n 30 rfl) (hS.k 30 3 rfl) (by decide) rfl (Nat.le_of_ble_eq_true rfl) (by decide) (by decide) (by decide) (s_mX3_append hS h) (fun I7 J9 h => ?_)
          obtain ⟨rfl, h⟩ := h
          obtain ⟨v8, e_v8⟩ : ∃ z : Int32, z = (x5 + 1) := ⟨_, rfl⟩
          replace h := h v8 e_v8
          refine V_iinc (lo2 := [(5, .int v8), (6, .int r3), (0, .ref 30), (1, .int a1), (2, .int a2), (3, .int a3), (4, .int x4)]) 6 dX3_passToSecond_86 rfl (v := v8) (by rw [e_v8]; first | done | rfl) (by decide) rfl ?_
          refine V_goto 29 dX3_passToSecond_89 rfl ?_
          refine V_sub (lo2 := [(0, .ref 30), (1, .int a1), (2, .int a2), (3, .int a3), (4, .int x4), (5, .int v8)]) [2, 3, 4, 5, 6, 0] rfl ?_
          exact ih _ _ _ h
      · replace h := h.2 hc
        refine V_aload_n dX3_passToSecond_49 rfl rfl ?_
        refine V_iload_n dX3_passToSecond_50 rfl rfl ?_
        refine V_iconst (v := 1) dX3_passToSecond_51 (by decide) ?_
        refine V_iadd dX3_passToSecond_52 ?_
        refine V_iload dX3_passToSecond_53 rfl ?_
        refine V_callVv (st := []) [.int (a2 + 1), .int r3] dX3_passToSecond_55 ok_mX3_append rfl ml_RX3_88 in_mX3_append se_mX3_append (hS.n 30 rfl) (hS.k 30 3 rfl) (by decide) rfl (Nat.le_of_ble_eq_true rfl) (by decide) (by decide) (by decide) (s_mX3_append hS h) (fun I9 J9 h => ?_)
        obtain ⟨rfl, h⟩ := h
        refine V_goto 86 dX3_passToSecond_58 rfl ?_
        obtain ⟨v10, e_v10⟩ : ∃ z : Int32, z = (x5 + 1) := ⟨_, rfl⟩
        replace h := h v10 e_v10
        refine V_iinc (lo2 := [(5, .int v10), (6, .int r3), (0, .ref 30), (1, .int a1), (2, .int a2), (3, .int a3), (4, .int x4)]) 6 dX3_passToSecond_86 rfl (v := v10) (by rw [e_v10]; first | done | rfl) (by decide) rfl ?_
        refine V_goto 29 dX3_passToSecond_89 rfl ?_
        refine V_sub (lo2 := [(0, .ref 30), (1, .int a1), (2, .int a2), (3, .int a3), (4, .int x4), (5, .int v10)]) [2, 3, 4, 5, 6, 0] rfl ?_
        exact ih _ _ _ h
def wX3_passToSecond (a1 : Int32) (a2 : Int32) (a3 : Int32) (I : QI) (post : QI → Prop) : Prop := (wX2_typeOf a1 I (fun r1 => ((¬ r1 = 4 → (wX3_empty (a2 + 1) I (fun I2 => (∃ f : Nat, wX3_passToSecond_29 a1 a2 a3 post f 0 0 I2)))) ∧ (r1 = 4 → (wX3_empty (a2 + 1) I (fun I11 => (∃ f : Nat, wX3_passToSecond_29 a1 a2 a3 post f 1 0 I11)))))))
set_option maxRecDepth 100000 in
set_option maxHeartbeats 4000000 in
theorem s_mX3_passToSecond {X : QX} {S : QS} {a1 : Int32} {a2 : Int32} {a3 : Int32} {I : QI} {J : QJ} {post : QI → Prop} (hS : Sh S) (h : wX3_passToSecond a1 a2 a3 I post) : CX X mX3_passToSecond 3 0 0 [.ref 30, .int a1, .int a2, .int a3] S I J (q_Pv S (fun I2 J2 => J = J2 ∧ post I2)) := by
  refine CX.of (lo := [(0, .ref 30), (1, .int a1), (2, .int a2), (3, .int a3)]) ok_mX3_passToSecond rfl (Nat.le_of_ble_eq_true rfl) rfl ?_
  replace h : (wX2_typeOf a1 I (fun r1 => ((¬ r1 = 4 → (wX3_empty (a2 + 1) I (fun I2 => (∃ f : Nat, wX3_passToSecond_29 a1 a2 a3 post f 0 0 I2)))) ∧ (r1 = 4 → (wX3_empty (a2 + 1) I (fun I11 => (∃ f : Nat, wX3_passToSecond_29 a1 a2 a3 post f 1 0 I11))))))) := h
  refine V_aload_n dX3_passToSecond_0 rfl rfl ?_
  refine V_getr dX3_passToSecond_1 fl_RX3_11 (hS.n 30 rfl) (hS.k 30 3 rfl) rfl (hS.r 30 0 15 rfl) ?_
  refine V_iload_n dX3_passToSecond_4 rfl rfl ?_
  refine V_callVi (st := []) [.int a1] dX3_passToSecond_5 ok_mX2_typeOf rfl ml_RX3_65 in_mX2_typeOf se_mX2_typeOf (hS.n 15 rfl) (hS.k 15 2 rfl) (by decide) rfl (Nat.le_of_ble_eq_true rfl) (by decide) (by decide) (by decide) (s_mX2_typeOf hS h) (fun r1 I9 J9 h => ?_)
  obtain ⟨rfl, rfl, h⟩ := h
  refine V_iconst (v := 4) dX3_passToSecond_8 (by decide) ?_
  refine V_icmp_ne 16 dX3_passToSecond_9 rfl (fun hc => ?_) (fun hc => ?_)
  · replace h := h.1 hc
    refine V_iconst (v := 0) dX3_passToSecond_16 (by decide) ?_
    refine V_istore (lo2 := [(4, .int 0), (0, .ref 30), (1, .int a1), (2, .int a2), (3, .int a3)]) dX3_passToSecond_17 (by decide) rfl ?_
    refine V_aload_n dX3_passToSecond_19 rfl rfl ?_
    refine V_iload_n dX3_passToSecond_20 rfl rfl ?_
    refine V_iconst (v := 1) dX3_passToSecond_21 (by decide) ?_
    refine V_iadd dX3_passToSecond_22 ?_
    refine V_callVv (st := []) [.int (a2 + 1)] dX3_passToSecond_23 ok_mX3_empty rfl ml_RX3_44 in_mX3_empty se_mX3_empty (hS.n 30 rfl) (hS.k 30 3 rfl) (by decide) rfl (Nat.le_of_ble_eq_true rfl) (by decide) (by decide) (by decide) (s_mX3_empty hS h) (fun I2 J9 h => ?_)
    obtain ⟨rfl, h⟩ := h
    refine V_iconst (v := 0) dX3_passToSecond_26 (by decide) ?_
    refine V_istore (lo2 := [(5, .int 0), (4, .int 0), (0, .ref 30), (1, .int a1), (2, .int a2), (3, .int a3)]) dX3_passToSecond_27 (by decide) rfl ?_
    refine V_sub (lo2 := [(0, .ref 30), (1, .int a1), (2, .int a2), (3, .int a3), (4, .int 0), (5, .int 0)]) [2, 3, 4, 5, 1, 0] rfl ?_
    obtain ⟨f9, h⟩ := h
    refine swX3_passToSecond_29 hS f9 _ _ _ h
  · replace h := h.2 hc
    refine V_iconst (v := 1) dX3_passToSecond_12 (by decide) ?_
    refine V_goto 17 dX3_passToSecond_13 rfl ?_
    refine V_istore (lo2 := [(4, .int 1), (0, .ref 30), (1, .int a1), (2, .int a2), (3, .int a3)]) dX3_passToSecond_17 (by decide) rfl ?_
    refine V_aload_n dX3_passToSecond_19 rfl rfl ?_
    refine V_iload_n dX3_passToSecond_20 rfl rfl ?_
    refine V_iconst (v := 1) dX3_passToSecond_21 (by decide) ?_
    refine V_iadd dX3_passToSecond_22 ?_
    refine V_callVv (st := []) [.int (a2 + 1)] dX3_passToSecond_23 ok_mX3_empty rfl ml_RX3_44 in_mX3_empty se_mX3_empty (hS.n 30 rfl) (hS.k 30 3 rfl) (by decide) rfl (Nat.le_of_ble_eq_true rfl) (by decide) (by decide) (by decide) (s_mX3_empty hS h) (fun I11 J9 h => ?_)
    obtain ⟨rfl, h⟩ := h
    refine V_iconst (v := 0) dX3_passToSecond_26 (by decide) ?_
    refine V_istore (lo2 := [(5, .int 0), (4, .int 1), (0, .ref 30), (1, .int a1), (2, .int a2), (3, .int a3)]) dX3_passToSecond_27 (by decide) rfl ?_
    refine V_sub (lo2 := [(0, .ref 30), (1, .int a1), (2, .int a2), (3, .int a3), (4, .int 1), (5, .int 0)]) [2, 3, 4, 5, 1, 0] rfl ?_
    obtain ⟨f9, h⟩ := h
    refine swX3_passToSecond_29 hS f9 _ _ _ h
def wX3_bringGreatest_4 (a1 : Int32) (a2 : Int32) (post : QI → Prop) : Nat → Int32 → QI → Prop
  | 0, _, _ => False
  | n + 1, x3, I => (wX3_lengthOf a1 I (fun r2 => ((r2 ≤ x3 → post I) ∧ (¬ r2 ≤ x3 → (wX3_codeAt a1 x3 I (fun r3 => (wX3_codeAt a1 a2 I (fun r4 => ((r3 ≤ r4 → (∀ v5 : Int32, v5 = (x3 + 1) → (wX3_bringGreatest_4 a1 a2 post n v5 I))) ∧ (¬ r3 ≤ r4 → (wX3_codeAt a1 a2 I (fun r6 => (wX3_setCode a1 x3 r6 I (fun I7 => (wX3_setCode a1 a2 r3 I7 (fun I8 => (∀ v9 : Int32, v9 = (x3 + 1) → (wX3_bringGreatest_4 a1 a2 post n v9 I8))))))))))))))))))
set_option maxRecDepth 100000 in
set_option maxHeartbeats 4000000 in
theorem swX3_bringGreatest_4 {X : QX} {S : QS} {a1 : Int32} {a2 : Int32} {J : QJ} {post : QI → Prop} (hS : Sh S) : ∀ (f : Nat) (x3 : Int32) (I : QI), wX3_bringGreatest_4 a1 a2 post f x3 I → V X mX3_bringGreatest 2 0 0 (q_Pv S (fun I2 J2 => J = J2 ∧ post I2)) 4 [(0, .ref 30), (1, .int a1), (2, .int a2), (3, .int x3)] [] S I J 0 0 := by
  intro f
  induction f with
  | zero => intro x3 I h; exact h.elim
  | succ n ih =>
    intro x3 I h
    replace h : (wX3_lengthOf a1 I (fun r2 => ((r2 ≤ x3 → post I) ∧ (¬ r2 ≤ x3 → (wX3_codeAt a1 x3 I (fun r3 => (wX3_codeAt a1 a2 I (fun r4 => ((r3 ≤ r4 → (∀ v5 : Int32, v5 = (x3 + 1) → (wX3_bringGreatest_4 a1 a2 post n v5 I))) ∧ (¬ r3 ≤ r4 → (wX3_codeAt a1 a2 I (fun r6 => (wX3_setCode a1 x3 r6 I (fun I7 => (wX3_setCode a1 a2 r3 I7 (fun I8 => (∀ v9 : Int32, v9 = (x3 + 1) → (wX3_bringGreatest_4 a1 a2 post n v9 I8)))))))))))))))))) := h
    refine V_iload_n dX3_bringGreatest_4 rfl rfl ?_
    refine V_aload_n dX3_bringGreatest_5 rfl rfl ?_
    refine V_iload_n dX3_bringGreatest_6 rfl rfl ?_
    refine V_callVi (st := [.int x3]) [.int a1] dX3_bringGreatest_7 ok_mX3_lengthOf rfl ml_RX3_92 in_mX3_lengthOf se_mX3_lengthOf (hS.n 30 rfl) (hS.k 30 3 rfl) (by decide) rfl (Nat.le_of_ble_eq_true rfl) (by decide) (by decide) (by decide) (s_mX3_lengthOf hS h) (fun r2 I9 J9 h => ?_)
    obtain ⟨rfl, rfl, h⟩ := h
    refine V_icmp_ge 58 dX3_bringGreatest_10 rfl (fun hc => ?_) (fun hc => ?_)
    · replace h := h.1 hc
      exact V_vret dX3_bringGreatest_58 rfl (by decide) (by decide) ⟨rfl, rfl, rfl, h⟩
    · replace h := h.2 hc
      refine V_aload_n dX3_bringGreatest_13 rfl rfl ?_
      refine V_iload_n dX3_bringGreatest_14 rfl rfl ?_
      refine V_iload_n dX3_bringGreatest_15 rfl rfl ?_
      refine V_callVi (st := []) [.int a1, .int x3] dX3_bringGreatest_16 ok_mX3_codeAt rfl ml_RX3_95 in_mX3_codeAt se_mX3_codeAt (hS.n 30 rfl) (hS.k 30 3 rfl) (by decide) rfl (Nat.le_of_ble_eq_true rfl) (by decide) (by decide) (by decide) (s_mX3_codeAt hS h) (fun r3 I9 J9 h => ?_)
      obtain ⟨rfl, rfl, h⟩ := h
      refine V_istore (lo2 := [(4, .int r3), (0, .ref 30), (1, .int a1), (2, .int a2), (3, .int x3)]) dX3_bringGreatest_19 (by decide) rfl ?_
      refine V_iload dX3_bringGreatest_21 rfl ?_
      refine V_aload_n dX3_bringGreatest_23 rfl rfl ?_
      refine V_iload_n dX3_bringGreatest_24 rfl rfl ?_
      refine V_iload_n dX3_bringGreatest_25 rfl rfl ?_
      refine V_callVi (st := [.int r3]) [.int a1, .int a2] dX3_bringGreatest_26 ok_mX3_codeAt rfl ml_RX3_95 in_mX3_codeAt se_mX3_codeAt (hS.n 30 rfl) (hS.k 30 3 rfl) (by decide) rfl (Nat.le_of_ble_eq_true rfl) (by decide) (by decide) (by decide) (s_mX3_codeAt hS h) (fun r4 I9 J9 h => ?_)
      obtain ⟨rfl, rfl, h⟩ := h
      refine V_icmp_le 52 dX3_bringGreatest_29 rfl (fun hc => ?_) (fun hc => ?_)
      · replace h := h.1 hc
        obtain ⟨v5, e_v5⟩ : ∃ z : Int32, z = (x3 + 1) := ⟨_, rfl⟩
        replace h := h v5 e_v5
        refine V_iinc (lo2 := [(3, .int v5), (4, .int r3), (0, .ref 30), (1, .int a1), (2, .int a2)]) 4 dX3_bringGreatest_52 rfl (v := v5) (by rw [e_v5]; first | done | rfl) (by decide) rfl ?_
        refine V_goto 4 dX3_bringGreatest_55 rfl ?_
        refine V_sub (lo2 := [(0, .ref 30), (1, .int a1), (2, .int a2), (3, .int v5)]) [2, 3, 4, 0] rfl ?_
        exact ih _ _ h
      · replace h := h.2 hc
        refine V_aload_n dX3_bringGreatest_32 rfl rfl ?_
        refine V_iload_n dX3_bringGreatest_33 rfl rfl ?_
        refine V_iload_n dX3_bringGreatest_34 rfl rfl ?_
        refine V_aload_n dX3_bringGreatest_35 rfl rfl ?_
        refine V_iload_n dX3_bringGreatest_36 rfl rfl ?_
        refine V_iload_n dX3_bringGreatest_37 rfl rfl ?_
        refine V_callVi (st := [.int x3, .int a1, .ref 30]) [.int a1, .int a2] dX3_bringGreatest_38 ok_mX3_codeAt rfl ml_RX3_95 in_mX3_codeAt se_mX3_codeAt (hS.n 30 rfl) (hS.k 30 3 rfl) (by decide) rfl (Nat.le_of_ble_eq_true rfl) (by decide) (by decide) (by decide) (s_mX3_codeAt hS h) (fun r6 I9 J9 h => ?_)
        obtain ⟨rfl, rfl, h⟩ := h
        refine V_callVv (st := []) [.int a1, .int x3, .int r6] dX3_bringGreatest_41 ok_mX3_setCode rfl ml_RX3_134 in_mX3_setCode se_mX3_setCode (hS.n 30 rfl) (hS.k 30 3 rfl) (by decide) rfl (Nat.le_of_ble_eq_true rfl) (by decide) (by decide) (by decide) (s_mX3_setCode hS h) (fun I7 J9 h => ?_)
        obtain ⟨rfl, h⟩ := h
        refine V_aload_n dX3_bringGreatest_44 rfl rfl ?_
        refine V_iload_n dX3_bringGreatest_45 rfl rfl ?_
        refine V_iload_n dX3_bringGreatest_46 rfl rfl ?_
        refine V_iload dX3_bringGreatest_47 rfl ?_
        refine V_callVv (st := []) [.int a1, .int a2, .int r3] dX3_bringGreatest_49 ok_mX3_setCode rfl ml_RX3_134 in_mX3_setCode se_mX3_setCode (hS.n 30 rfl) (hS.k 30 3 rfl) (by decide) rfl (Nat.le_of_ble_eq_true rfl) (by decide) (by decide) (by decide) (s_mX3_setCode hS h) (fun I8 J9 h => ?_)
        obtain ⟨rfl, h⟩ := h
        obtain ⟨v9, e_v9⟩ : ∃ z : Int32, z = (x3 + 1) := ⟨_, rfl⟩
        replace h := h v9 e_v9
        refine V_iinc (lo2 := [(3, .int v9), (4, .int r3), (0, .ref 30), (1, .int a1), (2, .int a2)]) 4 dX3_bringGreatest_52 rfl (v := v9) (by rw [e_v9]; first | done | rfl) (by decide) rfl ?_
        refine V_goto 4 dX3_bringGreatest_55 rfl ?_
        refine V_sub (lo2 := [(0, .ref 30), (1, .int a1), (2, .int a2), (3, .int v9)]) [2, 3, 4, 0] rfl ?_
        exact ih _ _ h
def wX3_bringGreatest (a1 : Int32) (a2 : Int32) (I : QI) (post : QI → Prop) : Prop := (∀ v1 : Int32, v1 = (a2 + 1) → (∃ f : Nat, wX3_bringGreatest_4 a1 a2 post f v1 I))
set_option maxRecDepth 100000 in
set_option maxHeartbeats 4000000 in
theorem s_mX3_bringGreatest {X : QX} {S : QS} {a1 : Int32} {a2 : Int32} {I : QI} {J : QJ} {post : QI → Prop} (hS : Sh S) (h : wX3_bringGreatest a1 a2 I post) : CX X mX3_bringGreatest 2 0 0 [.ref 30, .int a1, .int a2] S I J (q_Pv S (fun I2 J2 => J = J2 ∧ post I2)) := by
  refine CX.of (lo := [(0, .ref 30), (1, .int a1), (2, .int a2)]) ok_mX3_bringGreatest rfl (Nat.le_of_ble_eq_true rfl) rfl ?_
  replace h : (∀ v1 : Int32, v1 = (a2 + 1) → (∃ f : Nat, wX3_bringGreatest_4 a1 a2 post f v1 I)) := h
  refine V_iload_n dX3_bringGreatest_0 rfl rfl ?_
  refine V_iconst (v := 1) dX3_bringGreatest_1 (by decide) ?_
  refine V_iadd dX3_bringGreatest_2 ?_
  refine V_topi (fun v1 e_v1 => ?_)
  replace h := h v1 e_v1
  refine V_istore_n (lo2 := [(3, .int v1), (0, .ref 30), (1, .int a1), (2, .int a2)]) dX3_bringGreatest_3 rfl (by decide) rfl ?_
  refine V_sub (lo2 := [(0, .ref 30), (1, .int a1), (2, .int a2), (3, .int v1)]) [1, 2, 3, 0] rfl ?_
  obtain ⟨f9, h⟩ := h
  refine swX3_bringGreatest_4 hS f9 _ _ h
def wX3_stack_6 (a1 : Int32) (a2 : Int32) (a3 : Int32) (post : Int32 → QI → Prop) : Nat → Int32 → Int32 → QI → Prop
  | 0, _, _, _ => False
  | n + 1, x4, x5, I => (wX3_lengthOf a2 I (fun r1 => ((r1 ≤ x5 → post x4 I) ∧ (¬ r1 ≤ x5 → ((x4 = (-1) → post x4 I) ∧ (¬ x4 = (-1) → (wX3_bringGreatest a2 x5 I (fun I2 => (wX3_codeAt a2 x5 I2 (fun r3 => (∀ v4 : Int32, v4 = (r3 - r3 / 1194 * 1194) → (wX2_make 1 x4 (-1) (v4 / 199) (r3 / 1194) ((v4 - v4 / 199 * 199) - 99) I2 (fun r6 I5 => (∀ v7 : Int32, v7 = (x5 + 1) → (wX3_stack_6 a1 a2 a3 post n r6 v7 I5)))))))))))))))
set_option maxRecDepth 100000 in
set_option maxHeartbeats 4000000 in
theorem swX3_stack_6 {X : QX} {S : QS} {a1 : Int32} {a2 : Int32} {a3 : Int32} {J : QJ} {post : Int32 → QI → Prop} (hS : Sh S) : ∀ (f : Nat) (x4 : Int32) (x5 : Int32) (I : QI), wX3_stack_6 a1 a2 a3 post f x4 x5 I → V X mX3_stack 3 0 0 (q_Pi S (fun r I2 J2 => J = J2 ∧ post r I2)) 6 [(0, .ref 30), (2, .int a2), (4, .int x4), (5, .int x5)] [] S I J 0 0 := by
  intro f
  induction f with
  | zero => intro x4 x5 I h; exact h.elim
  | succ n ih =>
    intro x4 x5 I h
    replace h : (wX3_lengthOf a2 I (fun r1 => ((r1 ≤ x5 → post x4 I) ∧ (¬ r1 ≤ x5 → ((x4 = (-1) → post x4 I) ∧ (¬ x4 = (-1) → (wX3_bringGreatest a2 x5 I (fun I2 => (wX3_codeAt a2 x5 I2 (fun r3 => (∀ v4 : Int32, v4 = (r3 - r3 / 1194 * 1194) → (wX2_make 1 x4 (-1) (v4 / 199) (r3 / 1194) ((v4 - v4 / 199 * 199) - 99) I2 (fun r6 I5 => (∀ v7 : Int32, v7 = (x5 + 1) → (wX3_stack_6 a1 a2 a3 post n r6 v7 I5))))))))))))))) := h
    refine V_iload dX3_stack_6 rfl ?_
    refine V_aload_n dX3_stack_8 rfl rfl ?_
    refine V_iload_n dX3_stack_9 rfl rfl ?_
    refine V_callVi (st := [.int x5]) [.int a2] dX3_stack_10 ok_mX3_lengthOf rfl ml_RX3_92 in_mX3_lengthOf se_mX3_lengthOf (hS.n 30 rfl) (hS.k 30 3 rfl) (by decide) rfl (Nat.le_of_ble_eq_true rfl) (by decide) (by decide) (by decide) (s_mX3_lengthOf hS h) (fun r1 I9 J9 h => ?_)
    obtain ⟨rfl, rfl, h⟩ := h
    refine V_icmp_ge 86 dX3_stack_13 rfl (fun hc => ?_) (fun hc => ?_)
    · replace h := h.1 hc
      refine V_iload dX3_stack_86 rfl ?_
      exact V_iret dX3_stack_88 rfl (by decide) (by decide) ⟨_, rfl, rfl, rfl, h⟩
    · replace h := h.2 hc
      refine V_iload dX3_stack_16 rfl ?_
      refine V_iconst (v := (-1)) dX3_stack_18 (by decide) ?_
      refine V_icmp_eq 86 dX3_stack_19 rfl (fun hc => ?_) (fun hc => ?_)
      · replace h := h.1 hc
        refine V_iload dX3_stack_86 rfl ?_
        exact V_iret dX3_stack_88 rfl (by decide) (by decide) ⟨_, rfl, rfl, rfl, h⟩
      · replace h := h.2 hc
        refine V_aload_n dX3_stack_22 rfl rfl ?_
        refine V_iload_n dX3_stack_23 rfl rfl ?_
        refine V_iload dX3_stack_24 rfl ?_
        refine V_callVv (st := []) [.int a2, .int x5] dX3_stack_26 ok_mX3_bringGreatest rfl ml_RX3_131 in_mX3_bringGreatest se_mX3_bringGreatest (hS.n 30 rfl) (hS.k 30 3 rfl) (by decide) rfl (Nat.le_of_ble_eq_true rfl) (by decide) (by decide) (by decide) (s_mX3_bringGreatest hS h) (fun I2 J9 h => ?_)
        obtain ⟨rfl, h⟩ := h
        refine V_aload_n dX3_stack_29 rfl rfl ?_
        refine V_iload_n dX3_stack_30 rfl rfl ?_
        refine V_iload dX3_stack_31 rfl ?_
        refine V_callVi (st := []) [.int a2, .int x5] dX3_stack_33 ok_mX3_codeAt rfl ml_RX3_95 in_mX3_codeAt se_mX3_codeAt (hS.n 30 rfl) (hS.k 30 3 rfl) (by decide) rfl (Nat.le_of_ble_eq_true rfl) (by decide) (by decide) (by decide) (s_mX3_codeAt hS h) (fun r3 I9 J9 h => ?_)
        obtain ⟨rfl, rfl, h⟩ := h
        refine V_istore (lo2 := [(6, .int r3), (0, .ref 30), (2, .int a2), (4, .int x4), (5, .int x5)]) dX3_stack_36 (by decide) rfl ?_
        refine V_iload dX3_stack_38 rfl ?_
        refine V_sipush (v := 1194) dX3_stack_40 (by decide) ?_
        refine V_irem dX3_stack_43 (by decide) ?_
        refine V_topi (fun v4 e_v4 => ?_)
        replace h := h v4 e_v4
        refine V_istore (lo2 := [(7, .int v4), (6, .int r3), (0, .ref 30), (2, .int a2), (4, .int x4), (5, .int x5)]) dX3_stack_44 (by decide) rfl ?_
        refine V_aload_n dX3_stack_46 rfl rfl ?_
        refine V_getr dX3_stack_47 fl_RX3_11 (hS.n 30 rfl) (hS.k 30 3 rfl) rfl (hS.r 30 0 15 rfl) ?_
        refine V_iconst (v := 1) dX3_stack_50 (by decide) ?_
        refine V_iload dX3_stack_51 rfl ?_
        refine V_iconst (v := (-1)) dX3_stack_53 (by decide) ?_
        refine V_iload dX3_stack_54 rfl ?_
        refine V_sipush (v := 199) dX3_stack_56 (by decide) ?_
        refine V_idiv dX3_stack_59 (by decide) ?_
        refine V_iload dX3_stack_60 rfl ?_
        refine V_sipush (v := 1194) dX3_stack_62 (by decide) ?_
        refine V_idiv dX3_stack_65 (by decide) ?_
        refine V_iload dX3_stack_66 rfl ?_
        refine V_sipush (v := 199) dX3_stack_68 (by decide) ?_
        refine V_irem dX3_stack_71 (by decide) ?_
        refine V_bipush (v := 99) dX3_stack_72 (by decide) ?_
        refine V_isub dX3_stack_74 ?_
        refine V_callVi (st := []) [.int 1, .int x4, .int (-1), .int (v4 / 199), .int (r3 / 1194), .int ((v4 - v4 / 199 * 199) - 99)] dX3_stack_75 ok_mX2_make rfl ml_RX3_114 in_mX2_make se_mX2_make (hS.n 15 rfl) (hS.k 15 2 rfl) (by decide) rfl (Nat.le_of_ble_eq_true rfl) (by decide) (by decide) (by decide) (s_mX2_make hS h) (fun r6 I5 J9 h => ?_)
        obtain ⟨rfl, h⟩ := h
        refine V_istore (lo2 := [(4, .int r6), (7, .int v4), (6, .int r3), (0, .ref 30), (2, .int a2), (5, .int x5)]) dX3_stack_78 (by decide) rfl ?_
        obtain ⟨v7, e_v7⟩ : ∃ z : Int32, z = (x5 + 1) := ⟨_, rfl⟩
        replace h := h v7 e_v7
        refine V_iinc (lo2 := [(5, .int v7), (4, .int r6), (7, .int v4), (6, .int r3), (0, .ref 30), (2, .int a2)]) 5 dX3_stack_80 rfl (v := v7) (by rw [e_v7]; first | done | rfl) (by decide) rfl ?_
        refine V_goto 6 dX3_stack_83 rfl ?_
        refine V_sub (lo2 := [(0, .ref 30), (2, .int a2), (4, .int r6), (5, .int v7)]) [4, 5, 1, 0] rfl ?_
        exact ih _ _ _ h
def wX3_stack (a1 : Int32) (a2 : Int32) (a3 : Int32) (I : QI) (post : Int32 → QI → Prop) : Prop := (∃ f : Nat, wX3_stack_6 a1 a2 a3 post f a1 a3 I)
set_option maxRecDepth 100000 in
set_option maxHeartbeats 4000000 in
theorem s_mX3_stack {X : QX} {S : QS} {a1 : Int32} {a2 : Int32} {a3 : Int32} {I : QI} {J : QJ} {post : Int32 → QI → Prop} (hS : Sh S) (h : wX3_stack a1 a2 a3 I post) : CX X mX3_stack 3 0 0 [.ref 30, .int a1, .int a2, .int a3] S I J (q_Pi S (fun r I2 J2 => J = J2 ∧ post r I2)) := by
  refine CX.of (lo := [(0, .ref 30), (1, .int a1), (2, .int a2), (3, .int a3)]) ok_mX3_stack rfl (Nat.le_of_ble_eq_true rfl) rfl ?_
  replace h : (∃ f : Nat, wX3_stack_6 a1 a2 a3 post f a1 a3 I) := h
  refine V_iload_n dX3_stack_0 rfl rfl ?_
  refine V_istore (lo2 := [(4, .int a1), (0, .ref 30), (1, .int a1), (2, .int a2), (3, .int a3)]) dX3_stack_1 (by decide) rfl ?_
  refine V_iload_n dX3_stack_3 rfl rfl ?_
  refine V_istore (lo2 := [(5, .int a3), (4, .int a1), (0, .ref 30), (1, .int a1), (2, .int a2), (3, .int a3)]) dX3_stack_4 (by decide) rfl ?_
  refine V_sub (lo2 := [(0, .ref 30), (2, .int a2), (4, .int a1), (5, .int a3)]) [2, 4, 1, 0] rfl ?_
  obtain ⟨f9, h⟩ := h
  refine swX3_stack_6 hS f9 _ _ _ h
def wX3_settleOther (rec : Int32 → Int32 → QI → (Int32 → QI → Prop) → Prop) (a1 : Int32) (a2 : Int32) (I : QI) (post : Int32 → QI → Prop) : Prop := (wX2_typeOf a1 I (fun r1 => (wX2_firstOf a1 I (fun r2 => (wX2_secondOf a1 I (fun r3 => (wX3_countFree a1 a2 I (fun r4 => ((r1 = 0 → ((r3 = (-1) → (wX2_kindOf a1 I (fun r5 => (wX2_columnOf a1 I (fun r6 => (wX2_extraOf a1 I (fun r7 => (wX2_make r1 r2 r3 r5 r6 r7 I (fun r9 I8 => (wX3_stack r9 a2 r4 I8 (fun r11 I10 => post r11 I10))))))))))) ∧ (¬ r3 = (-1) → (wX3_passToSecond a1 a2 r4 I (fun I12 => (rec r3 (a2 + 1) I12 (fun r14 I13 => ((¬ r14 = (-1) → (wX2_kindOf a1 I13 (fun r15 => (wX2_columnOf a1 I13 (fun r16 => (wX2_extraOf a1 I13 (fun r17 => (wX2_make r1 r2 r14 r15 r16 r17 I13 (fun r19 I18 => (wX3_stack r19 a2 r4 I18 (fun r21 I20 => post r21 I20))))))))))) ∧ (r14 = (-1) → post (-1) I13))))))))) ∧ (¬ r1 = 0 → (wX3_passToFirst a1 a2 r4 I (fun I22 => (rec r2 (a2 + 1) I22 (fun r24 I23 => ((¬ r24 = (-1) → ((r3 = (-1) → (wX2_kindOf a1 I23 (fun r25 => (wX2_columnOf a1 I23 (fun r26 => (wX2_extraOf a1 I23 (fun r27 => (wX2_make r1 r24 r3 r25 r26 r27 I23 (fun r29 I28 => (wX3_stack r29 a2 r4 I28 (fun r31 I30 => post r31 I30))))))))))) ∧ (¬ r3 = (-1) → (wX3_passToSecond a1 a2 r4 I23 (fun I32 => (rec r3 (a2 + 1) I32 (fun r34 I33 => ((¬ r34 = (-1) → (wX2_kindOf a1 I33 (fun r35 => (wX2_columnOf a1 I33 (fun r36 => (wX2_extraOf a1 I33 (fun r37 => (wX2_make r1 r24 r34 r35 r36 r37 I33 (fun r39 I38 => (wX3_stack r39 a2 r4 I38 (fun r41 I40 => post r41 I40))))))))))) ∧ (r34 = (-1) → post (-1) I33))))))))) ∧ (r24 = (-1) → post (-1) I23))))))))))))))))
set_option maxRecDepth 100000 in
set_option maxHeartbeats 4000000 in
theorem s_mX3_settleOther {X : QX} {S : QS} {a1 : Int32} {a2 : Int32} {I : QI} {J : QJ} {post : Int32 → QI → Prop} {rec : Int32 → Int32 → QI → (Int32 → QI → Prop) → Prop} {D : Nat} (hD : 8 ≤ D) (hrec : ∀ (a1 a2 : Int32) (I : QI) (J : QJ) (post : Int32 → QI → Prop), rec a1 a2 I post → CX X mX3_settle D 0 0 [.ref 30, .int a1, .int a2] S I J (q_Pi S (fun r I2 J2 => J = J2 ∧ post r I2))) (hS : Sh S) (h : wX3_settleOther rec a1 a2 I post) : CX X mX3_settleOther (D + 1) 0 0 [.ref 30, .int a1, .int a2] S I J (q_Pi S (fun r I2 J2 => J = J2 ∧ post r I2)) := by
  refine CX.of (lo := [(0, .ref 30), (1, .int a1), (2, .int a2)]) ok_mX3_settleOther rfl (Nat.le_of_ble_eq_true rfl) rfl ?_
  replace h : (wX2_typeOf a1 I (fun r1 => (wX2_firstOf a1 I (fun r2 => (wX2_secondOf a1 I (fun r3 => (wX3_countFree a1 a2 I (fun r4 => ((r1 = 0 → ((r3 = (-1) → (wX2_kindOf a1 I (fun r5 => (wX2_columnOf a1 I (fun r6 => (wX2_extraOf a1 I (fun r7 => (wX2_make r1 r2 r3 r5 r6 r7 I (fun r9 I8 => (wX3_stack r9 a2 r4 I8 (fun r11 I10 => post r11 I10))))))))))) ∧ (¬ r3 = (-1) → (wX3_passToSecond a1 a2 r4 I (fun I12 => (rec r3 (a2 + 1) I12 (fun r14 I13 => ((¬ r14 = (-1) → (wX2_kindOf a1 I13 (fun r15 => (wX2_columnOf a1 I13 (fun r16 => (wX2_extraOf a1 I13 (fun r17 => (wX2_make r1 r2 r14 r15 r16 r17 I13 (fun r19 I18 => (wX3_stack r19 a2 r4 I18 (fun r21 I20 => post r21 I20))))))))))) ∧ (r14 = (-1) → post (-1) I13))))))))) ∧ (¬ r1 = 0 → (wX3_passToFirst a1 a2 r4 I (fun I22 => (rec r2 (a2 + 1) I22 (fun r24 I23 => ((¬ r24 = (-1) → ((r3 = (-1) → (wX2_kindOf a1 I23 (fun r25 => (wX2_columnOf a1 I23 (fun r26 => (wX2_extraOf a1 I23 (fun r27 => (wX2_make r1 r24 r3 r25 r26 r27 I23 (fun r29 I28 => (wX3_stack r29 a2 r4 I28 (fun r31 I30 => post r31 I30))))))))))) ∧ (¬ r3 = (-1) → (wX3_passToSecond a1 a2 r4 I23 (fun I32 => (rec r3 (a2 + 1) I32 (fun r34 I33 => ((¬ r34 = (-1) → (wX2_kindOf a1 I33 (fun r35 => (wX2_columnOf a1 I33 (fun r36 => (wX2_extraOf a1 I33 (fun r37 => (wX2_make r1 r24 r34 r35 r36 r37 I33 (fun r39 I38 => (wX3_stack r39 a2 r4 I38 (fun r41 I40 => post r41 I40))))))))))) ∧ (r34 = (-1) → post (-1) I33))))))))) ∧ (r24 = (-1) → post (-1) I23)))))))))))))))) := h
  refine V_aload_n dX3_settleOther_0 rfl rfl ?_
  refine V_getr dX3_settleOther_1 fl_RX3_11 (hS.n 30 rfl) (hS.k 30 3 rfl) rfl (hS.r 30 0 15 rfl) ?_
  refine V_iload_n dX3_settleOther_4 rfl rfl ?_
  refine V_callVi (st := []) [.int a1] dX3_settleOther_5 ok_mX2_typeOf rfl ml_RX3_65 in_mX2_typeOf se_mX2_typeOf (hS.n 15 rfl) (hS.k 15 2 rfl) (by decide) rfl (Nat.le_of_ble_eq_true rfl) (by omega) (by decide) (by decide) (s_mX2_typeOf hS h) (fun r1 I9 J9 h => ?_)
  obtain ⟨rfl, rfl, h⟩ := h
  refine V_istore_n (lo2 := [(3, .int r1), (0, .ref 30), (1, .int a1), (2, .int a2)]) dX3_settleOther_8 rfl (by decide) rfl ?_
  refine V_aload_n dX3_settleOther_9 rfl rfl ?_
  refine V_getr dX3_settleOther_10 fl_RX3_11 (hS.n 30 rfl) (hS.k 30 3 rfl) rfl (hS.r 30 0 15 rfl) ?_
  refine V_iload_n dX3_settleOther_13 rfl rfl ?_
  refine V_callVi (st := []) [.int a1] dX3_settleOther_14 ok_mX2_firstOf rfl ml_RX3_98 in_mX2_firstOf se_mX2_firstOf (hS.n 15 rfl) (hS.k 15 2 rfl) (by decide) rfl (Nat.le_of_ble_eq_true rfl) (by omega) (by decide) (by decide) (s_mX2_firstOf hS h) (fun r2 I9 J9 h => ?_)
  obtain ⟨rfl, rfl, h⟩ := h
  refine V_istore (lo2 := [(4, .int r2), (3, .int r1), (0, .ref 30), (1, .int a1), (2, .int a2)]) dX3_settleOther_17 (by decide) rfl ?_
  refine V_aload_n dX3_settleOther_19 rfl rfl ?_
  refine V_getr dX3_settleOther_20 fl_RX3_11 (hS.n 30 rfl) (hS.k 30 3 rfl) rfl (hS.r 30 0 15 rfl) ?_
  refine V_iload_n dX3_settleOther_23 rfl rfl ?_
  refine V_callVi (st := []) [.int a1] dX3_settleOther_24 ok_mX2_secondOf rfl ml_RX3_101 in_mX2_secondOf se_mX2_secondOf (hS.n 15 rfl) (hS.k 15 2 rfl) (by decide) rfl (Nat.le_of_ble_eq_true rfl) (by omega) (by decide) (by decide) (s_mX2_secondOf hS h) (fun r3 I9 J9 h => ?_)
  obtain ⟨rfl, rfl, h⟩ := h
  refine V_istore (lo2 := [(5, .int r3), (4, .int r2), (3, .int r1), (0, .ref 30), (1, .int a1), (2, .int a2)]) dX3_settleOther_27 (by decide) rfl ?_
  refine V_aload_n dX3_settleOther_29 rfl rfl ?_
  refine V_iload_n dX3_settleOther_30 rfl rfl ?_
  refine V_iload_n dX3_settleOther_31 rfl rfl ?_
  refine V_callVi (st := []) [.int a1, .int a2] dX3_settleOther_32 ok_mX3_countFree rfl ml_RX3_104 in_mX3_countFree se_mX3_countFree (hS.n 30 rfl) (hS.k 30 3 rfl) (by decide) rfl (Nat.le_of_ble_eq_true rfl) (by omega) (by decide) (by decide) (s_mX3_countFree hS h) (fun r4 I9 J9 h => ?_)
  obtain ⟨rfl, rfl, h⟩ := h
  refine V_istore (lo2 := [(6, .int r4), (5, .int r3), (4, .int r2), (3, .int r1), (0, .ref 30), (1, .int a1), (2, .int a2)]) dX3_settleOther_35 (by decide) rfl ?_
  refine V_iload_n dX3_settleOther_37 rfl rfl ?_
  refine V_if_eq 68 dX3_settleOther_38 rfl (fun hc => ?_) (fun hc => ?_)
  · replace h := h.1 hc
    refine V_iload dX3_settleOther_68 rfl ?_
    refine V_iconst (v := (-1)) dX3_settleOther_70 (by decide) ?_
    refine V_icmp_eq 101 dX3_settleOther_71 rfl (fun hc => ?_) (fun hc => ?_)
    · replace h := h.1 hc
      refine V_aload_n dX3_settleOther_101 rfl rfl ?_
      refine V_getr dX3_settleOther_102 fl_RX3_11 (hS.n 30 rfl) (hS.k 30 3 rfl) rfl (hS.r 30 0 15 rfl) ?_
      refine V_iload_n dX3_settleOther_105 rfl rfl ?_
      refine V_iload dX3_settleOther_106 rfl ?_
      refine V_iload dX3_settleOther_108 rfl ?_
      refine V_aload_n dX3_settleOther_110 rfl rfl ?_
      refine V_getr dX3_settleOther_111 fl_RX3_11 (hS.n 30 rfl) (hS.k 30 3 rfl) rfl (hS.r 30 0 15 rfl) ?_
      refine V_iload_n dX3_settleOther_114 rfl rfl ?_
      refine V_callVi (st := [.int r3, .int r2, .int r1, .ref 15]) [.int a1] dX3_settleOther_115 ok_mX2_kindOf rfl ml_RX3_78 in_mX2_kindOf se_mX2_kindOf (hS.n 15 rfl) (hS.k 15 2 rfl) (by decide) rfl (Nat.le_of_ble_eq_true rfl) (by omega) (by decide) (by decide) (s_mX2_kindOf hS h) (fun r5 I9 J9 h => ?_)
      obtain ⟨rfl, rfl, h⟩ := h
      refine V_aload_n dX3_settleOther_118 rfl rfl ?_
      refine V_getr dX3_settleOther_119 fl_RX3_11 (hS.n 30 rfl) (hS.k 30 3 rfl) rfl (hS.r 30 0 15 rfl) ?_
      refine V_iload_n dX3_settleOther_122 rfl rfl ?_
      refine V_callVi (st := [.int r5, .int r3, .int r2, .int r1, .ref 15]) [.int a1] dX3_settleOther_123 ok_mX2_columnOf rfl ml_RX3_75 in_mX2_columnOf se_mX2_columnOf (hS.n 15 rfl) (hS.k 15 2 rfl) (by decide) rfl (Nat.le_of_ble_eq_true rfl) (by omega) (by decide) (by decide) (s_mX2_columnOf hS h) (fun r6 I9 J9 h => ?_)
      obtain ⟨rfl, rfl, h⟩ := h
      refine V_aload_n dX3_settleOther_126 rfl rfl ?_
      refine V_getr dX3_settleOther_127 fl_RX3_11 (hS.n 30 rfl) (hS.k 30 3 rfl) rfl (hS.r 30 0 15 rfl) ?_
      refine V_iload_n dX3_settleOther_130 rfl rfl ?_
      refine V_callVi (st := [.int r6, .int r5, .int r3, .int r2, .int r1, .ref 15]) [.int a1] dX3_settleOther_131 ok_mX2_extraOf rfl ml_RX3_81 in_mX2_extraOf se_mX2_extraOf (hS.n 15 rfl) (hS.k 15 2 rfl) (by decide) rfl (Nat.le_of_ble_eq_true rfl) (by omega) (by decide) (by decide) (s_mX2_extraOf hS h) (fun r7 I9 J9 h => ?_)
      obtain ⟨rfl, rfl, h⟩ := h
      refine V_callVi (st := []) [.int r1, .int r2, .int r3, .int r5, .int r6, .int r7] dX3_settleOther_134 ok_mX2_make rfl ml_RX3_114 in_mX2_make se_mX2_make (hS.n 15 rfl) (hS.k 15 2 rfl) (by decide) rfl (Nat.le_of_ble_eq_true rfl) (by omega) (by decide) (by decide) (s_mX2_make hS h) (fun r9 I8 J9 h => ?_)
      obtain ⟨rfl, h⟩ := h
      refine V_istore (lo2 := [(7, .int r9), (6, .int r4), (5, .int r3), (4, .int r2), (3, .int r1), (0, .ref 30), (1, .int a1), (2, .int a2)]) dX3_settleOther_137 (by decide) rfl ?_
      refine V_aload_n dX3_settleOther_139 rfl rfl ?_
      refine V_iload dX3_settleOther_140 rfl ?_
      refine V_iload_n dX3_settleOther_142 rfl rfl ?_
      refine V_iload dX3_settleOther_143 rfl ?_
      refine V_callVi (st := []) [.int r9, .int a2, .int r4] dX3_settleOther_145 ok_mX3_stack rfl ml_RX3_118 in_mX3_stack se_mX3_stack (hS.n 30 rfl) (hS.k 30 3 rfl) (by decide) rfl (Nat.le_of_ble_eq_true rfl) (by omega) (by decide) (by decide) (s_mX3_stack hS h) (fun r11 I10 J9 h => ?_)
      obtain ⟨rfl, h⟩ := h
      exact V_iret dX3_settleOther_148 rfl (by decide) (by decide) ⟨_, rfl, rfl, rfl, h⟩
    · replace h := h.2 hc
      refine V_aload_n dX3_settleOther_74 rfl rfl ?_
      refine V_iload_n dX3_settleOther_75 rfl rfl ?_
      refine V_iload_n dX3_settleOther_76 rfl rfl ?_
      refine V_iload dX3_settleOther_77 rfl ?_
      refine V_callVv (st := []) [.int a1, .int a2, .int r4] dX3_settleOther_79 ok_mX3_passToSecond rfl ml_RX3_111 in_mX3_passToSecond se_mX3_passToSecond (hS.n 30 rfl) (hS.k 30 3 rfl) (by decide) rfl (Nat.le_of_ble_eq_true rfl) (by omega) (by decide) (by decide) (s_mX3_passToSecond hS h) (fun I12 J9 h => ?_)
      obtain ⟨rfl, h⟩ := h
      refine V_aload_n dX3_settleOther_82 rfl rfl ?_
      refine V_iload dX3_settleOther_83 rfl ?_
      refine V_iload_n dX3_settleOther_85 rfl rfl ?_
      refine V_iconst (v := 1) dX3_settleOther_86 (by decide) ?_
      refine V_iadd dX3_settleOther_87 ?_
      refine V_callVi (st := []) [.int r3, .int (a2 + 1)] dX3_settleOther_88 ok_mX3_settle rfl ml_RX3_48 in_mX3_settle se_mX3_settle (hS.n 30 rfl) (hS.k 30 3 rfl) (by decide) rfl (Nat.le_of_ble_eq_true rfl) (by omega) (by decide) (by decide) (hrec _ _ _ _ _ h) (fun r14 I13 J9 h => ?_)
      obtain ⟨rfl, h⟩ := h
      refine V_istore (lo2 := [(5, .int r14), (6, .int r4), (4, .int r2), (3, .int r1), (0, .ref 30), (1, .int a1), (2, .int a2)]) dX3_settleOther_91 (by decide) rfl ?_
      refine V_iload dX3_settleOther_93 rfl ?_
      refine V_iconst (v := (-1)) dX3_settleOther_95 (by decide) ?_
      refine V_icmp_ne 101 dX3_settleOther_96 rfl (fun hc => ?_) (fun hc => ?_)
      · replace h := h.1 hc
        refine V_aload_n dX3_settleOther_101 rfl rfl ?_
        refine V_getr dX3_settleOther_102 fl_RX3_11 (hS.n 30 rfl) (hS.k 30 3 rfl) rfl (hS.r 30 0 15 rfl) ?_
        refine V_iload_n dX3_settleOther_105 rfl rfl ?_
        refine V_iload dX3_settleOther_106 rfl ?_
        refine V_iload dX3_settleOther_108 rfl ?_
        refine V_aload_n dX3_settleOther_110 rfl rfl ?_
        refine V_getr dX3_settleOther_111 fl_RX3_11 (hS.n 30 rfl) (hS.k 30 3 rfl) rfl (hS.r 30 0 15 rfl) ?_
        refine V_iload_n dX3_settleOther_114 rfl rfl ?_
        refine V_callVi (st := [.int r14, .int r2, .int r1, .ref 15]) [.int a1] dX3_settleOther_115 ok_mX2_kindOf rfl ml_RX3_78 in_mX2_kindOf se_mX2_kindOf (hS.n 15 rfl) (hS.k 15 2 rfl) (by decide) rfl (Nat.le_of_ble_eq_true rfl) (by omega) (by decide) (by decide) (s_mX2_kindOf hS h) (fun r15 I9 J9 h => ?_)
        obtain ⟨rfl, rfl, h⟩ := h
        refine V_aload_n dX3_settleOther_118 rfl rfl ?_
        refine V_getr dX3_settleOther_119 fl_RX3_11 (hS.n 30 rfl) (hS.k 30 3 rfl) rfl (hS.r 30 0 15 rfl) ?_
        refine V_iload_n dX3_settleOther_122 rfl rfl ?_
        refine V_callVi (st := [.int r15, .int r14, .int r2, .int r1, .ref 15]) [.int a1] dX3_settleOther_123 ok_mX2_columnOf rfl ml_RX3_75 in_mX2_columnOf se_mX2_columnOf (hS.n 15 rfl) (hS.k 15 2 rfl) (by decide) rfl (Nat.le_of_ble_eq_true rfl) (by omega) (by decide) (by decide) (s_mX2_columnOf hS h) (fun r16 I9 J9 h => ?_)
        obtain ⟨rfl, rfl, h⟩ := h
        refine V_aload_n dX3_settleOther_126 rfl rfl ?_
        refine V_getr dX3_settleOther_127 fl_RX3_11 (hS.n 30 rfl) (hS.k 30 3 rfl) rfl (hS.r 30 0 15 rfl) ?_
        refine V_iload_n dX3_settleOther_130 rfl rfl ?_
        refine V_callVi (st := [.int r16, .int r15, .int r14, .int r2, .int r1, .ref 15]) [.int a1] dX3_settleOther_131 ok_mX2_extraOf rfl ml_RX3_81 in_mX2_extraOf se_mX2_extraOf (hS.n 15 rfl) (hS.k 15 2 rfl) (by decide) rfl (Nat.le_of_ble_eq_true rfl) (by omega) (by decide) (by decide) (s_mX2_extraOf hS h) (fun r17 I9 J9 h => ?_)
        obtain ⟨rfl, rfl, h⟩ := h
        refine V_callVi (st := []) [.int r1, .int r2, .int r14, .int r15, .int r16, .int r17] dX3_settleOther_134 ok_mX2_make rfl ml_RX3_114 in_mX2_make se_mX2_make (hS.n 15 rfl) (hS.k 15 2 rfl) (by decide) rfl (Nat.le_of_ble_eq_true rfl) (by omega) (by decide) (by decide) (s_mX2_make hS h) (fun r19 I18 J9 h => ?_)
        obtain ⟨rfl, h⟩ := h
        refine V_istore (lo2 := [(7, .int r19), (5, .int r14), (6, .int r4), (4, .int r2), (3, .int r1), (0, .ref 30), (1, .int a1), (2, .int a2)]) dX3_settleOther_137 (by decide) rfl ?_
        refine V_aload_n dX3_settleOther_139 rfl rfl ?_
        refine V_iload dX3_settleOther_140 rfl ?_
        refine V_iload_n dX3_settleOther_142 rfl rfl ?_
        refine V_iload dX3_settleOther_143 rfl ?_
        refine V_callVi (st := []) [.int r19, .int a2, .int r4] dX3_settleOther_145 ok_mX3_stack rfl ml_RX3_118 in_mX3_stack se_mX3_stack (hS.n 30 rfl) (hS.k 30 3 rfl) (by decide) rfl (Nat.le_of_ble_eq_true rfl) (by omega) (by decide) (by decide) (s_mX3_stack hS h) (fun r21 I20 J9 h => ?_)
        obtain ⟨rfl, h⟩ := h
        exact V_iret dX3_settleOther_148 rfl (by decide) (by decide) ⟨_, rfl, rfl, rfl, h⟩
      · replace h := h.2 hc
        refine V_iconst (v := (-1)) dX3_settleOther_99 (by decide) ?_
        exact V_iret dX3_settleOther_100 rfl (by decide) (by decide) ⟨_, rfl, rfl, rfl, h⟩
  · replace h := h.2 hc
    refine V_aload_n dX3_settleOther_41 rfl rfl ?_
    refine V_iload_n dX3_settleOther_42 rfl rfl ?_
    refine V_iload_n dX3_settleOther_43 rfl rfl ?_
    refine V_iload dX3_settleOther_44 rfl ?_
    refine V_callVv (st := []) [.int a1, .int a2, .int r4] dX3_settleOther_46 ok_mX3_passToFirst rfl ml_RX3_107 in_mX3_passToFirst se_mX3_passToFirst (hS.n 30 rfl) (hS.k 30 3 rfl) (by decide) rfl (Nat.le_of_ble_eq_true rfl) (by omega) (by decide) (by decide) (s_mX3_passToFirst hS h) (fun I22 J9 h => ?_)
    obtain ⟨rfl, h⟩ := h
    refine V_aload_n dX3_settleOther_49 rfl rfl ?_
    refine V_iload dX3_settleOther_50 rfl ?_
    refine V_iload_n dX3_settleOther_52 rfl rfl ?_
    refine V_iconst (v := 1) dX3_settleOther_53 (by decide) ?_
    refine V_iadd dX3_settleOther_54 ?_
    refine V_callVi (st := []) [.int r2, .int (a2 + 1)] dX3_settleOther_55 ok_mX3_settle rfl ml_RX3_48 in_mX3_settle se_mX3_settle (hS.n 30 rfl) (hS.k 30 3 rfl) (by decide) rfl (Nat.le_of_ble_eq_true rfl) (by omega) (by decide) (by decide) (hrec _ _ _ _ _ h) (fun r24 I23 J9 h => ?_)
    obtain ⟨rfl, h⟩ := h
    refine V_istore (lo2 := [(4, .int r24), (6, .int r4), (5, .int r3), (3, .int r1), (0, .ref 30), (1, .int a1), (2, .int a2)]) dX3_settleOther_58 (by decide) rfl ?_
    refine V_iload dX3_settleOther_60 rfl ?_
    refine V_iconst (v := (-1)) dX3_settleOther_62 (by decide) ?_
    refine V_icmp_ne 68 dX3_settleOther_63 rfl (fun hc => ?_) (fun hc => ?_)
    · replace h := h.1 hc
      refine V_iload dX3_settleOther_68 rfl ?_
      refine V_iconst (v := (-1)) dX3_settleOther_70 (by decide) ?_
      refine V_icmp_eq 101 dX3_settleOther_71 rfl (fun hc => ?_) (fun hc => ?_)
      · replace h := h.1 hc
        refine V_aload_n dX3_settleOther_101 rfl rfl ?_
        refine V_getr dX3_settleOther_102 fl_RX3_11 (hS.n 30 rfl) (hS.k 30 3 rfl) rfl (hS.r 30 0 15 rfl) ?_
        refine V_iload_n dX3_settleOther_105 rfl rfl ?_
        refine V_iload dX3_settleOther_106 rfl ?_
        refine V_iload dX3_settleOther_108 rfl ?_
        refine V_aload_n dX3_settleOther_110 rfl rfl ?_
        refine V_getr dX3_settleOther_111 fl_RX3_11 (hS.n 30 rfl) (hS.k 30 3 rfl) rfl (hS.r 30 0 15 rfl) ?_
        refine V_iload_n dX3_settleOther_114 rfl rfl ?_
        refine V_callVi (st := [.int r3, .int r24, .int r1, .ref 15]) [.int a1] dX3_settleOther_115 ok_mX2_kindOf rfl ml_RX3_78 in_mX2_kindOf se_mX2_kindOf (hS.n 15 rfl) (hS.k 15 2 rfl) (by decide) rfl (Nat.le_of_ble_eq_true rfl) (by omega) (by decide) (by decide) (s_mX2_kindOf hS h) (fun r25 I9 J9 h => ?_)
        obtain ⟨rfl, rfl, h⟩ := h
        refine V_aload_n dX3_settleOther_118 rfl rfl ?_
        refine V_getr dX3_settleOther_119 fl_RX3_11 (hS.n 30 rfl) (hS.k 30 3 rfl) rfl (hS.r 30 0 15 rfl) ?_
        refine V_iload_n dX3_settleOther_122 rfl rfl ?_
        refine V_callVi (st := [.int r25, .int r3, .int r24, .int r1, .ref 15]) [.int a1] dX3_settleOther_123 ok_mX2_columnOf rfl ml_RX3_75 in_mX2_columnOf se_mX2_columnOf (hS.n 15 rfl) (hS.k 15 2 rfl) (by decide) rfl (Nat.le_of_ble_eq_true rfl) (by omega) (by decide) (by decide) (s_mX2_columnOf hS h) (fun r26 I9 J9 h => ?_)
        obtain ⟨rfl, rfl, h⟩ := h
        refine V_aload_n dX3_settleOther_126 rfl rfl ?_
        refine V_getr dX3_settleOther_127 fl_RX3_11 (hS.n 30 rfl) (hS.k 30 3 rfl) rfl (hS.r 30 0 15 rfl) ?_
        refine V_iload_n dX3_settleOther_130 rfl rfl ?_
        refine V_callVi (st := [.int r26, .int r25, .int r3, .int r24, .int r1, .ref 15]) [.int a1] dX3_settleOther_131 ok_mX2_extraOf rfl ml_RX3_81 in_mX2_extraOf se_mX2_extraOf (hS.n 15 rfl) (hS.k 15 2 rfl) (by decide) rfl (Nat.le_of_ble_eq_true rfl) (by omega) (by decide) (by decide) (s_mX2_extraOf hS h) (fun r27 I9 J9 h => ?_)
        obtain ⟨rfl, rfl, h⟩ := h
        refine V_callVi (st := []) [.int r1, .int r24, .int r3, .int r25, .int r26, .int r27] dX3_settleOther_134 ok_mX2_make rfl ml_RX3_114 in_mX2_make se_mX2_make (hS.n 15 rfl) (hS.k 15 2 rfl) (by decide) rfl (Nat.le_of_ble_eq_true rfl) (by omega) (by decide) (by decide) (s_mX2_make hS h) (fun r29 I28 J9 h => ?_)
        obtain ⟨rfl, h⟩ := h
        refine V_istore (lo2 := [(7, .int r29), (4, .int r24), (6, .int r4), (5, .int r3), (3, .int r1), (0, .ref 30), (1, .int a1), (2, .int a2)]) dX3_settleOther_137 (by decide) rfl ?_
        refine V_aload_n dX3_settleOther_139 rfl rfl ?_
        refine V_iload dX3_settleOther_140 rfl ?_
        refine V_iload_n dX3_settleOther_142 rfl rfl ?_
        refine V_iload dX3_settleOther_143 rfl ?_
        refine V_callVi (st := []) [.int r29, .int a2, .int r4] dX3_settleOther_145 ok_mX3_stack rfl ml_RX3_118 in_mX3_stack se_mX3_stack (hS.n 30 rfl) (hS.k 30 3 rfl) (by decide) rfl (Nat.le_of_ble_eq_true rfl) (by omega) (by decide) (by decide) (s_mX3_stack hS h) (fun r31 I30 J9 h => ?_)
        obtain ⟨rfl, h⟩ := h
        exact V_iret dX3_settleOther_148 rfl (by decide) (by decide) ⟨_, rfl, rfl, rfl, h⟩
      · replace h := h.2 hc
        refine V_aload_n dX3_settleOther_74 rfl rfl ?_
        refine V_iload_n dX3_settleOther_75 rfl rfl ?_
        refine V_iload_n dX3_settleOther_76 rfl rfl ?_
        refine V_iload dX3_settleOther_77 rfl ?_
        refine V_callVv (st := []) [.int a1, .int a2, .int r4] dX3_settleOther_79 ok_mX3_passToSecond rfl ml_RX3_111 in_mX3_passToSecond se_mX3_passToSecond (hS.n 30 rfl) (hS.k 30 3 rfl) (by decide) rfl (Nat.le_of_ble_eq_true rfl) (by omega) (by decide) (by decide) (s_mX3_passToSecond hS h) (fun I32 J9 h => ?_)
        obtain ⟨rfl, h⟩ := h
        refine V_aload_n dX3_settleOther_82 rfl rfl ?_
        refine V_iload dX3_settleOther_83 rfl ?_
        refine V_iload_n dX3_settleOther_85 rfl rfl ?_
        refine V_iconst (v := 1) dX3_settleOther_86 (by decide) ?_
        refine V_iadd dX3_settleOther_87 ?_
        refine V_callVi (st := []) [.int r3, .int (a2 + 1)] dX3_settleOther_88 ok_mX3_settle rfl ml_RX3_48 in_mX3_settle se_mX3_settle (hS.n 30 rfl) (hS.k 30 3 rfl) (by decide) rfl (Nat.le_of_ble_eq_true rfl) (by omega) (by decide) (by decide) (hrec _ _ _ _ _ h) (fun r34 I33 J9 h => ?_)
        obtain ⟨rfl, h⟩ := h
        refine V_istore (lo2 := [(5, .int r34), (4, .int r24), (6, .int r4), (3, .int r1), (0, .ref 30), (1, .int a1), (2, .int a2)]) dX3_settleOther_91 (by decide) rfl ?_
        refine V_iload dX3_settleOther_93 rfl ?_
        refine V_iconst (v := (-1)) dX3_settleOther_95 (by decide) ?_
        refine V_icmp_ne 101 dX3_settleOther_96 rfl (fun hc => ?_) (fun hc => ?_)
        · replace h := h.1 hc
          refine V_aload_n dX3_settleOther_101 rfl rfl ?_
          refine V_getr dX3_settleOther_102 fl_RX3_11 (hS.n 30 rfl) (hS.k 30 3 rfl) rfl (hS.r 30 0 15 rfl) ?_
          refine V_iload_n dX3_settleOther_105 rfl rfl ?_
          refine V_iload dX3_settleOther_106 rfl ?_
          refine V_iload dX3_settleOther_108 rfl ?_
          refine V_aload_n dX3_settleOther_110 rfl rfl ?_
          refine V_getr dX3_settleOther_111 fl_RX3_11 (hS.n 30 rfl) (hS.k 30 3 rfl) rfl (hS.r 30 0 15 rfl) ?_
          refine V_iload_n dX3_settleOther_114 rfl rfl ?_
          refine V_callVi (st := [.int r34, .int r24, .int r1, .ref 15]) [.int a1] dX3_settleOther_115 ok_mX2_kindOf rfl ml_RX3_78 in_mX2_kindOf se_mX2_kindOf (hS.n 15 rfl) (hS.k 15 2 rfl) (by decide) rfl (Nat.le_of_ble_eq_true rfl) (by omega) (by decide) (by decide) (s_mX2_kindOf hS h) (fun r35 I9 J9 h => ?_)
          obtain ⟨rfl, rfl, h⟩ := h
          refine V_aload_n dX3_settleOther_118 rfl rfl ?_
          refine V_getr dX3_settleOther_119 fl_RX3_11 (hS.n 30 rfl) (hS.k 30 3 rfl) rfl (hS.r 30 0 15 rfl) ?_
          refine V_iload_n dX3_settleOther_122 rfl rfl ?_
          refine V_callVi (st := [.int r35, .int r34, .int r24, .int r1, .ref 15]) [.int a1] dX3_settleOther_123 ok_mX2_columnOf rfl ml_RX3_75 in_mX2_columnOf se_mX2_columnOf (hS.n 15 rfl) (hS.k 15 2 rfl) (by decide) rfl (Nat.le_of_ble_eq_true rfl) (by omega) (by decide) (by decide) (s_mX2_columnOf hS h) (fun r36 I9 J9 h => ?_)
          obtain ⟨rfl, rfl, h⟩ := h
          refine V_aload_n dX3_settleOther_126 rfl rfl ?_
          refine V_getr dX3_settleOther_127 fl_RX3_11 (hS.n 30 rfl) (hS.k 30 3 rfl) rfl (hS.r 30 0 15 rfl) ?_
          refine V_iload_n dX3_settleOther_130 rfl rfl ?_
          refine V_callVi (st := [.int r36, .int r35, .int r34, .int r24, .int r1, .ref 15]) [.int a1] dX3_settleOther_131 ok_mX2_extraOf rfl ml_RX3_81 in_mX2_extraOf se_mX2_extraOf (hS.n 15 rfl) (hS.k 15 2 rfl) (by decide) rfl (Nat.le_of_ble_eq_true rfl) (by omega) (by decide) (by decide) (s_mX2_extraOf hS h) (fun r37 I9 J9 h => ?_)
          obtain ⟨rfl, rfl, h⟩ := h
          refine V_callVi (st := []) [.int r1, .int r24, .int r34, .int r35, .int r36, .int r37] dX3_settleOther_134 ok_mX2_make rfl ml_RX3_114 in_mX2_make se_mX2_make (hS.n 15 rfl) (hS.k 15 2 rfl) (by decide) rfl (Nat.le_of_ble_eq_true rfl) (by omega) (by decide) (by decide) (s_mX2_make hS h) (fun r39 I38 J9 h => ?_)
          obtain ⟨rfl, h⟩ := h
          refine V_istore (lo2 := [(7, .int r39), (5, .int r34), (4, .int r24), (6, .int r4), (3, .int r1), (0, .ref 30), (1, .int a1), (2, .int a2)]) dX3_settleOther_137 (by decide) rfl ?_
          refine V_aload_n dX3_settleOther_139 rfl rfl ?_
          refine V_iload dX3_settleOther_140 rfl ?_
          refine V_iload_n dX3_settleOther_142 rfl rfl ?_
          refine V_iload dX3_settleOther_143 rfl ?_
          refine V_callVi (st := []) [.int r39, .int a2, .int r4] dX3_settleOther_145 ok_mX3_stack rfl ml_RX3_118 in_mX3_stack se_mX3_stack (hS.n 30 rfl) (hS.k 30 3 rfl) (by decide) rfl (Nat.le_of_ble_eq_true rfl) (by omega) (by decide) (by decide) (s_mX3_stack hS h) (fun r41 I40 J9 h => ?_)
          obtain ⟨rfl, h⟩ := h
          exact V_iret dX3_settleOther_148 rfl (by decide) (by decide) ⟨_, rfl, rfl, rfl, h⟩
        · replace h := h.2 hc
          refine V_iconst (v := (-1)) dX3_settleOther_99 (by decide) ?_
          exact V_iret dX3_settleOther_100 rfl (by decide) (by decide) ⟨_, rfl, rfl, rfl, h⟩
    · replace h := h.2 hc
      refine V_iconst (v := (-1)) dX3_settleOther_66 (by decide) ?_
      exact V_iret dX3_settleOther_67 rfl (by decide) (by decide) ⟨_, rfl, rfl, rfl, h⟩
def wX3_settle : Nat → Int32 → Int32 → QI → (Int32 → QI → Prop) → Prop
  | 0, _, _, _, _ => False
  | n + 1, a1, a2, I, post => (wX2_has a1 I (fun r1 => ((r1 = 0 → post (-1) I) ∧ (¬ r1 = 0 → ((a2 < 0 → post (-1) I) ∧ (¬ a2 < 0 → ((a2 < 24 → (wX3_find a1 a2 I (fun r2 => ((r2 = (-1) → (wX3_remember a1 a2 I (fun r4 I3 => (wX2_typeOf a1 I3 (fun r5 => ((¬ r5 = 1 → (wX3_settleOther (wX3_settle n) a1 a2 I3 (fun r7 I6 => ((r4 = (-1) → post r7 I6) ∧ (¬ r4 = (-1) → (vp_in r4 256 ∧ (∀ I8 : QI, I8 = q_u2 I6 36 (r4).toNatClampNeg r7 → post r7 I8))))))) ∧ (r5 = 1 → (wX3_settleFilter (wX3_settle n) a1 a2 I3 (fun r10 I9 => ((r4 = (-1) → post r10 I9) ∧ (¬ r4 = (-1) → (vp_in r4 256 ∧ (∀ I11 : QI, I11 = q_u2 I9 36 (r4).toNatClampNeg r10 → post r10 I11))))))))))))) ∧ (¬ r2 = (-1) → (vp_in r2 256 ∧ post (I 36 (r2).toNatClampNeg) I)))))) ∧ (¬ a2 < 24 → post (-1) I))))))))
set_option maxRecDepth 100000 in
set_option maxHeartbeats 4000000 in
theorem s_mX3_settle {X : QX} {S : QS} (hS : Sh S) : ∀ (n : Nat) (a1 a2 : Int32) (I : QI) (J : QJ) (post : Int32 → QI → Prop), wX3_settle n a1 a2 I post → CX X mX3_settle (8 + 2 * n) 0 0 [.ref 30, .int a1, .int a2] S I J (q_Pi S (fun r I2 J2 => J = J2 ∧ post r I2)) := by
  intro n
  induction n with
  | zero => intro a1 a2 I J post h; exact h.elim
  | succ n ih =>
    intro a1 a2 I J post h
    show CX X mX3_settle (8 + 2 * n + 2) 0 0 _ S I J _
    have hD : 8 ≤ 8 + 2 * n := Nat.le_add_right _ _
    generalize 8 + 2 * n = D at hD ih ⊢
    refine CX.of (lo := [(0, .ref 30), (1, .int a1), (2, .int a2)]) ok_mX3_settle rfl (Nat.le_of_ble_eq_true rfl) rfl ?_
    replace h : (wX2_has a1 I (fun r1 => ((r1 = 0 → post (-1) I) ∧ (¬ r1 = 0 → ((a2 < 0 → post (-1) I) ∧ (¬ a2 < 0 → ((a2 < 24 → (wX3_find a1 a2 I (fun r2 => ((r2 = (-1) → (wX3_remember a1 a2 I (fun r4 I3 => (wX2_typeOf a1 I3 (fun r5 => ((¬ r5 = 1 → (wX3_settleOther (wX3_settle n) a1 a2 I3 (fun r7 I6 => ((r4 = (-1) → post r7 I6) ∧ (¬ r4 = (-1) → (vp_in r4 256 ∧ (∀ I8 : QI, I8 = q_u2 I6 36 (r4).toNatClampNeg r7 → post r7 I8))))))) ∧ (r5 = 1 → (wX3_settleFilter (wX3_settle n) a1 a2 I3 (fun r10 I9 => ((r4 = (-1) → post r10 I9) ∧ (¬ r4 = (-1) → (vp_in r4 256 ∧ (∀ I11 : QI, I11 = q_u2 I9 36 (r4).toNatClampNeg r10 → post r10 I11))))))))))))) ∧ (¬ r2 = (-1) → (vp_in r2 256 ∧ post (I 36 (r2).toNatClampNeg) I)))))) ∧ (¬ a2 < 24 → post (-1) I)))))))) := h
    refine V_aload_n dX3_settle_0 rfl rfl ?_
    refine V_getr dX3_settle_1 fl_RX3_11 (hS.n 30 rfl) (hS.k 30 3 rfl) rfl (hS.r 30 0 15 rfl) ?_
    refine V_iload_n dX3_settle_4 rfl rfl ?_
    refine V_callVi (st := []) [.int a1] dX3_settle_5 ok_mX2_has rfl ml_RX3_55 in_mX2_has se_mX2_has (hS.n 15 rfl) (hS.k 15 2 rfl) (by decide) rfl (Nat.le_of_ble_eq_true rfl) (by omega) (by decide) (by decide) (s_mX2_has hS h) (fun r1 I9 J9 h => ?_)
    obtain ⟨rfl, rfl, h⟩ := h
    refine V_if_eq 21 dX3_settle_8 rfl (fun hc => ?_) (fun hc => ?_)
    · replace h := h.1 hc
      refine V_iconst (v := (-1)) dX3_settle_21 (by decide) ?_
      exact V_iret dX3_settle_22 rfl (by decide) (by decide) ⟨_, rfl, rfl, rfl, h⟩
    · replace h := h.2 hc
      refine V_iload_n dX3_settle_11 rfl rfl ?_
      refine V_if_lt 21 dX3_settle_12 rfl (fun hc => ?_) (fun hc => ?_)
      · replace h := h.1 hc
        refine V_iconst (v := (-1)) dX3_settle_21 (by decide) ?_
        exact V_iret dX3_settle_22 rfl (by decide) (by decide) ⟨_, rfl, rfl, rfl, h⟩
      · replace h := h.2 hc
        refine V_iload_n dX3_settle_15 rfl rfl ?_
        refine V_bipush (v := 24) dX3_settle_16 (by decide) ?_
        refine V_icmp_lt 23 dX3_settle_18 rfl (fun hc => ?_) (fun hc => ?_)
        · replace h := h.1 hc
          refine V_aload_n dX3_settle_23 rfl rfl ?_
          refine V_iload_n dX3_settle_24 rfl rfl ?_
          refine V_iload_n dX3_settle_25 rfl rfl ?_
          refine V_callVi (st := []) [.int a1, .int a2] dX3_settle_26 ok_mX3_find rfl ml_RX3_59 in_mX3_find se_mX3_find (hS.n 30 rfl) (hS.k 30 3 rfl) (by decide) rfl (Nat.le_of_ble_eq_true rfl) (by omega) (by decide) (by decide) (s_mX3_find hS h) (fun r2 I9 J9 h => ?_)
          obtain ⟨rfl, rfl, h⟩ := h
          refine V_istore_n (lo2 := [(3, .int r2), (0, .ref 30), (1, .int a1), (2, .int a2)]) dX3_settle_29 rfl (by decide) rfl ?_
          refine V_iload_n dX3_settle_30 rfl rfl ?_
          refine V_iconst (v := (-1)) dX3_settle_31 (by decide) ?_
          refine V_icmp_eq 42 dX3_settle_32 rfl (fun hc => ?_) (fun hc => ?_)
          · replace h := h.1 hc
            refine V_aload_n dX3_settle_42 rfl rfl ?_
            refine V_iload_n dX3_settle_43 rfl rfl ?_
            refine V_iload_n dX3_settle_44 rfl rfl ?_
            refine V_callVi (st := []) [.int a1, .int a2] dX3_settle_45 ok_mX3_remember rfl ml_RX3_62 in_mX3_remember se_mX3_remember (hS.n 30 rfl) (hS.k 30 3 rfl) (by decide) rfl (Nat.le_of_ble_eq_true rfl) (by omega) (by decide) (by decide) (s_mX3_remember hS h) (fun r4 I3 J9 h => ?_)
            obtain ⟨rfl, h⟩ := h
            refine V_istore (lo2 := [(4, .int r4), (3, .int r2), (0, .ref 30), (1, .int a1), (2, .int a2)]) dX3_settle_48 (by decide) rfl ?_
            refine V_aload_n dX3_settle_50 rfl rfl ?_
            refine V_getr dX3_settle_51 fl_RX3_11 (hS.n 30 rfl) (hS.k 30 3 rfl) rfl (hS.r 30 0 15 rfl) ?_
            refine V_iload_n dX3_settle_54 rfl rfl ?_
            refine V_callVi (st := []) [.int a1] dX3_settle_55 ok_mX2_typeOf rfl ml_RX3_65 in_mX2_typeOf se_mX2_typeOf (hS.n 15 rfl) (hS.k 15 2 rfl) (by decide) rfl (Nat.le_of_ble_eq_true rfl) (by omega) (by decide) (by decide) (s_mX2_typeOf hS h) (fun r5 I9 J9 h => ?_)
            obtain ⟨rfl, rfl, h⟩ := h
            refine V_iconst (v := 1) dX3_settle_58 (by decide) ?_
            refine V_icmp_ne 71 dX3_settle_59 rfl (fun hc => ?_) (fun hc => ?_)
            · replace h := h.1 hc
              refine V_aload_n dX3_settle_71 rfl rfl ?_
              refine V_iload_n dX3_settle_72 rfl rfl ?_
              refine V_iload_n dX3_settle_73 rfl rfl ?_
              refine V_callVi (st := []) [.int a1, .int a2] dX3_settle_74 ok_mX3_settleOther rfl ml_RX3_72 in_mX3_settleOther se_mX3_settleOther (hS.n 30 rfl) (hS.k 30 3 rfl) (by decide) rfl (Nat.le_of_ble_eq_true rfl) (by omega) (by decide) (by decide) (s_mX3_settleOther hD (fun a1 a2 I J post h => ih a1 a2 I J post h) hS h) (fun r7 I6 J9 h => ?_)
              obtain ⟨rfl, h⟩ := h
              refine V_istore (lo2 := [(5, .int r7), (4, .int r4), (3, .int r2), (0, .ref 30), (1, .int a1), (2, .int a2)]) dX3_settle_77 (by decide) rfl ?_
              refine V_iload dX3_settle_79 rfl ?_
              refine V_iconst (v := (-1)) dX3_settle_81 (by decide) ?_
              refine V_icmp_eq 94 dX3_settle_82 rfl (fun hc => ?_) (fun hc => ?_)
              · replace h := h.1 hc
                refine V_iload dX3_settle_94 rfl ?_
                exact V_iret dX3_settle_96 rfl (by decide) (by decide) ⟨_, rfl, rfl, rfl, h⟩
              · replace h := h.2 hc
                refine V_aload_n dX3_settle_85 rfl rfl ?_
                refine V_getr dX3_settle_86 fl_RX3_31 (hS.n 30 rfl) (hS.k 30 3 rfl) rfl (hS.r 30 6 36 rfl) ?_
                refine V_iload dX3_settle_89 rfl ?_
                refine V_iload dX3_settle_91 rfl ?_
                obtain ⟨hb, h⟩ := h
                refine V_iast dX3_settle_93 (hS.n 36 rfl) (hS.k 36 9 rfl) (by rw [(hS.z 36 256 rfl)]; exact hb) ?_
                refine V_memI (fun I8 e_I8 => ?_)
                replace h := h I8 e_I8
                refine V_iload dX3_settle_94 rfl ?_
                exact V_iret dX3_settle_96 rfl (by decide) (by decide) ⟨_, rfl, rfl, rfl, h⟩
            · replace h := h.2 hc
              refine V_aload_n dX3_settle_62 rfl rfl ?_
              refine V_iload_n dX3_settle_63 rfl rfl ?_
              refine V_iload_n dX3_settle_64 rfl rfl ?_
              refine V_callVi (st := []) [.int a1, .int a2] dX3_settle_65 ok_mX3_settleFilter rfl ml_RX3_69 in_mX3_settleFilter se_mX3_settleFilter (hS.n 30 rfl) (hS.k 30 3 rfl) (by decide) rfl (Nat.le_of_ble_eq_true rfl) (by omega) (by decide) (by decide) (s_mX3_settleFilter hD (fun a1 a2 I J post h => ih a1 a2 I J post h) hS h) (fun r10 I9 J9 h => ?_)
              obtain ⟨rfl, h⟩ := h
              refine V_goto 77 dX3_settle_68 rfl ?_
              refine V_istore (lo2 := [(5, .int r10), (4, .int r4), (3, .int r2), (0, .ref 30), (1, .int a1), (2, .int a2)]) dX3_settle_77 (by decide) rfl ?_
              refine V_iload dX3_settle_79 rfl ?_
              refine V_iconst (v := (-1)) dX3_settle_81 (by decide) ?_
              refine V_icmp_eq 94 dX3_settle_82 rfl (fun hc => ?_) (fun hc => ?_)
              · replace h := h.1 hc
                refine V_iload dX3_settle_94 rfl ?_
                exact V_iret dX3_settle_96 rfl (by decide) (by decide) ⟨_, rfl, rfl, rfl, h⟩
              · replace h := h.2 hc
                refine V_aload_n dX3_settle_85 rfl rfl ?_
                refine V_getr dX3_settle_86 fl_RX3_31 (hS.n 30 rfl) (hS.k 30 3 rfl) rfl (hS.r 30 6 36 rfl) ?_
                refine V_iload dX3_settle_89 rfl ?_
                refine V_iload dX3_settle_91 rfl ?_
                obtain ⟨hb, h⟩ := h
                refine V_iast dX3_settle_93 (hS.n 36 rfl) (hS.k 36 9 rfl) (by rw [(hS.z 36 256 rfl)]; exact hb) ?_
                refine V_memI (fun I11 e_I11 => ?_)
                replace h := h I11 e_I11
                refine V_iload dX3_settle_94 rfl ?_
                exact V_iret dX3_settle_96 rfl (by decide) (by decide) ⟨_, rfl, rfl, rfl, h⟩
          · replace h := h.2 hc
            refine V_aload_n dX3_settle_35 rfl rfl ?_
            refine V_getr dX3_settle_36 fl_RX3_31 (hS.n 30 rfl) (hS.k 30 3 rfl) rfl (hS.r 30 6 36 rfl) ?_
            refine V_iload_n dX3_settle_39 rfl rfl ?_
            obtain ⟨hb, h⟩ := h
            refine V_iald dX3_settle_40 (hS.n 36 rfl) (hS.k 36 9 rfl) (by rw [(hS.z 36 256 rfl)]; exact hb) ?_
            exact V_iret dX3_settle_41 rfl (by decide) (by decide) ⟨_, rfl, rfl, rfl, h⟩
        · replace h := h.2 hc
          refine V_iconst (v := (-1)) dX3_settle_21 (by decide) ?_
          exact V_iret dX3_settle_22 rfl (by decide) (by decide) ⟨_, rfl, rfl, rfl, h⟩
def wX3_rewritten (a1 : Int32) (I : QI) (post : Int32 → QI → Prop) : Prop := (wX2_size I (fun r1 => (∀ I2 : QI, I2 = q_u2 I 30 7 0 → (wX3_empty 0 I2 (fun I3 => (wX3_settle 26 a1 0 I3 (fun r5 I4 => ((¬ r5 = (-1) → post r5 I4) ∧ (r5 = (-1) → (wX2_cutTo r1 I4 (fun I6 => post r5 I6)))))))))))
set_option maxRecDepth 100000 in
set_option maxHeartbeats 4000000 in
theorem s_mX3_rewritten {X : QX} {S : QS} {a1 : Int32} {I : QI} {J : QJ} {post : Int32 → QI → Prop} (hS : Sh S) (h : wX3_rewritten a1 I post) : CX X mX3_rewritten 63 0 0 [.ref 30, .int a1] S I J (q_Pi S (fun r I2 J2 => J = J2 ∧ post r I2)) := by
  refine CX.of (lo := [(0, .ref 30), (1, .int a1)]) ok_mX3_rewritten rfl (Nat.le_of_ble_eq_true rfl) rfl ?_
  replace h : (wX2_size I (fun r1 => (∀ I2 : QI, I2 = q_u2 I 30 7 0 → (wX3_empty 0 I2 (fun I3 => (wX3_settle 26 a1 0 I3 (fun r5 I4 => ((¬ r5 = (-1) → post r5 I4) ∧ (r5 = (-1) → (wX2_cutTo r1 I4 (fun I6 => post r5 I6))))))))))) := h
  refine V_aload_n dX3_rewritten_0 rfl rfl ?_
  refine V_getr dX3_rewritten_1 fl_RX3_11 (hS.n 30 rfl) (hS.k 30 3 rfl) rfl (hS.r 30 0 15 rfl) ?_
  refine V_callVi (st := []) [] dX3_rewritten_4 ok_mX2_size rfl ml_RX3_34 in_mX2_size se_mX2_size (hS.n 15 rfl) (hS.k 15 2 rfl) (by decide) rfl (Nat.le_of_ble_eq_true rfl) (by decide) (by decide) (by decide) (s_mX2_size hS h) (fun r1 I9 J9 h => ?_)
  obtain ⟨rfl, rfl, h⟩ := h
  refine V_istore_n (lo2 := [(2, .int r1), (0, .ref 30), (1, .int a1)]) dX3_rewritten_7 rfl (by decide) rfl ?_
  refine V_aload_n dX3_rewritten_8 rfl rfl ?_
  refine V_iconst (v := 0) dX3_rewritten_9 (by decide) ?_
  refine V_puti dX3_rewritten_10 fl_RX3_40 rfl (hS.n 30 rfl) (hS.k 30 3 rfl) rfl rfl rfl ?_
  refine V_memI (fun I2 e_I2 => ?_)
  replace h := h I2 e_I2
  refine V_aload_n dX3_rewritten_13 rfl rfl ?_
  refine V_iconst (v := 0) dX3_rewritten_14 (by decide) ?_
  refine V_callVv (st := []) [.int 0] dX3_rewritten_15 ok_mX3_empty rfl ml_RX3_44 in_mX3_empty se_mX3_empty (hS.n 30 rfl) (hS.k 30 3 rfl) (by decide) rfl (Nat.le_of_ble_eq_true rfl) (by decide) (by decide) (by decide) (s_mX3_empty hS h) (fun I3 J9 h => ?_)
  obtain ⟨rfl, h⟩ := h
  refine V_aload_n dX3_rewritten_18 rfl rfl ?_
  refine V_iload_n dX3_rewritten_19 rfl rfl ?_
  refine V_iconst (v := 0) dX3_rewritten_20 (by decide) ?_
  refine V_callVi (st := []) [.int a1, .int 0] dX3_rewritten_21 ok_mX3_settle rfl ml_RX3_48 in_mX3_settle se_mX3_settle (hS.n 30 rfl) (hS.k 30 3 rfl) (by decide) rfl (Nat.le_of_ble_eq_true rfl) (by decide) (by decide) (by decide) (s_mX3_settle hS 26 _ _ _ _ _ h) (fun r5 I4 J9 h => ?_)
  obtain ⟨rfl, h⟩ := h
  refine V_istore_n (lo2 := [(3, .int r5), (2, .int r1), (0, .ref 30), (1, .int a1)]) dX3_rewritten_24 rfl (by decide) rfl ?_
  refine V_iload_n dX3_rewritten_25 rfl rfl ?_
  refine V_iconst (v := (-1)) dX3_rewritten_26 (by decide) ?_
  refine V_icmp_ne 38 dX3_rewritten_27 rfl (fun hc => ?_) (fun hc => ?_)
  · replace h := h.1 hc
    refine V_iload_n dX3_rewritten_38 rfl rfl ?_
    exact V_iret dX3_rewritten_39 rfl (by decide) (by decide) ⟨_, rfl, rfl, rfl, h⟩
  · replace h := h.2 hc
    refine V_aload_n dX3_rewritten_30 rfl rfl ?_
    refine V_getr dX3_rewritten_31 fl_RX3_11 (hS.n 30 rfl) (hS.k 30 3 rfl) rfl (hS.r 30 0 15 rfl) ?_
    refine V_iload_n dX3_rewritten_34 rfl rfl ?_
    refine V_callVv (st := []) [.int r1] dX3_rewritten_35 ok_mX2_cutTo rfl ml_RX3_52 in_mX2_cutTo se_mX2_cutTo (hS.n 15 rfl) (hS.k 15 2 rfl) (by decide) rfl (Nat.le_of_ble_eq_true rfl) (by decide) (by decide) (by decide) (s_mX2_cutTo hS h) (fun I6 J9 h => ?_)
    obtain ⟨rfl, h⟩ := h
    refine V_iload_n dX3_rewritten_38 rfl rfl ?_
    exact V_iret dX3_rewritten_39 rfl (by decide) (by decide) ⟨_, rfl, rfl, rfl, h⟩
