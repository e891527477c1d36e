def wX0_countOf (a1 : Int32) (I : QI) (post : Int32 → Prop) : Prop := ((a1 < 0 → post (-1)) ∧ (¬ a1 < 0 → ((24 ≤ a1 → post (-1)) ∧ (¬ 24 ≤ a1 → (vp_in a1 24 ∧ post (I 25 (a1).toNatClampNeg))))))
set_option maxRecDepth 100000 in
set_option maxHeartbeats 4000000 in
theorem s_mX0_countOf {X : QX} {S : QS} {a1 : Int32} {I : QI} {J : QJ} {post : Int32 → Prop} (hS : Sh S) (h : wX0_countOf a1 I post) : CX X mX0_countOf 0 0 0 [.ref 23, .int a1] S I J (q_Pi S (fun r I2 J2 => I = I2 ∧ J = J2 ∧ post r)) := by
  refine CX.of (lo := [(0, .ref 23), (1, .int a1)]) ok_mX0_countOf rfl (Nat.le_of_ble_eq_true rfl) rfl ?_
  replace h : ((a1 < 0 → post (-1)) ∧ (¬ a1 < 0 → ((24 ≤ a1 → post (-1)) ∧ (¬ 24 ≤ a1 → (vp_in a1 24 ∧ post (I 25 (a1).toNatClampNeg)))))) := h
  refine V_iload_n dX0_countOf_0 rfl rfl ?_
  refine V_if_lt 19 dX0_countOf_1 rfl (fun hc => ?_) (fun hc => ?_)
  · replace h := h.1 hc
    refine V_iconst (v := (-1)) dX0_countOf_19 (by decide) ?_
    exact V_iret dX0_countOf_20 rfl (by decide) (by decide) ⟨_, rfl, rfl, rfl, rfl, h⟩
  · replace h := h.2 hc
    refine V_iload_n dX0_countOf_4 rfl rfl ?_
    refine V_bipush (v := 24) dX0_countOf_5 (by decide) ?_
    refine V_icmp_ge 19 dX0_countOf_7 rfl (fun hc => ?_) (fun hc => ?_)
    · replace h := h.1 hc
      refine V_iconst (v := (-1)) dX0_countOf_19 (by decide) ?_
      exact V_iret dX0_countOf_20 rfl (by decide) (by decide) ⟨_, rfl, rfl, rfl, rfl, h⟩
    · replace h := h.2 hc
      refine V_aload_n dX0_countOf_10 rfl rfl ?_
      refine V_getr dX0_countOf_11 fl_RX0_23 (hS.n 23 rfl) (hS.k 23 0 rfl) rfl (hS.r 23 3 25 rfl) ?_
      refine V_iload_n dX0_countOf_14 rfl rfl ?_
      obtain ⟨hb, h⟩ := h
      refine V_iald dX0_countOf_15 (hS.n 25 rfl) (hS.k 25 9 rfl) (by rw [(hS.z 25 24 rfl)]; exact hb) ?_
      refine V_goto 20 dX0_countOf_16 rfl ?_
      exact V_iret dX0_countOf_20 rfl (by decide) (by decide) ⟨_, rfl, rfl, rfl, rfl, h⟩
def wX0_arePartsPossible (a1 : Int32) (I : QI) (post : Int32 → Prop) : Prop := (wX2_typeOf a1 I (fun r1 => ((¬ r1 = 0 → (wX2_secondOf a1 I (fun r2 => (wX2_firstOf a1 I (fun r3 => (wX0_countOf r3 I (fun r4 => ((r4 = (-1) → post 0) ∧ (¬ r4 = (-1) → ((r2 = (-1) → post 1) ∧ (¬ r2 = (-1) → (wX0_countOf r2 I (fun r5 => ((r5 = (-1) → post 0) ∧ (¬ r5 = (-1) → post 1))))))))))))))) ∧ (r1 = 0 → post 1))))
set_option maxRecDepth 100000 in
set_option maxHeartbeats 4000000 in
theorem s_mX0_arePartsPossible {X : QX} {S : QS} {a1 : Int32} {I : QI} {J : QJ} {post : Int32 → Prop} (hS : Sh S) (h : wX0_arePartsPossible a1 I post) : CX X mX0_arePartsPossible 1 0 0 [.ref 23, .int a1] S I J (q_Pi S (fun r I2 J2 => I = I2 ∧ J = J2 ∧ post r)) := by
  refine CX.of (lo := [(0, .ref 23), (1, .int a1)]) ok_mX0_arePartsPossible rfl (Nat.le_of_ble_eq_true rfl) rfl ?_
  replace h : (wX2_typeOf a1 I (fun r1 => ((¬ r1 = 0 → (wX2_secondOf a1 I (fun r2 => (wX2_firstOf a1 I (fun r3 => (wX0_countOf r3 I (fun r4 => ((r4 = (-1) → post 0) ∧ (¬ r4 = (-1) → ((r2 = (-1) → post 1) ∧ (¬ r2 = (-1) → (wX0_countOf r2 I (fun r5 => ((r5 = (-1) → post 0) ∧ (¬ r5 = (-1) → post 1))))))))))))))) ∧ (r1 = 0 → post 1)))) := h
  refine V_aload_n dX0_arePartsPossible_0 rfl rfl ?_
  refine V_getr dX0_arePartsPossible_1 fl_RX0_15 (hS.n 23 rfl) (hS.k 23 0 rfl) rfl (hS.r 23 1 15 rfl) ?_
  refine V_iload_n dX0_arePartsPossible_4 rfl rfl ?_
  refine V_callVi (st := []) [.int a1] dX0_arePartsPossible_5 ok_mX2_typeOf rfl ml_RX0_82 in_mX2_typeOf se_mX2_typeOf (hS.n 15 rfl) (hS.k 15 2 rfl) (by decide) rfl (Nat.le_of_ble_eq_true rfl) (by decide) (by decide) (by decide) (s_mX2_typeOf hS h) (fun r1 I9 J9 h => ?_)
  obtain ⟨rfl, rfl, h⟩ := h
  refine V_if_ne 13 dX0_arePartsPossible_8 rfl (fun hc => ?_) (fun hc => ?_)
  · replace h := h.1 hc
    refine V_aload_n dX0_arePartsPossible_13 rfl rfl ?_
    refine V_getr dX0_arePartsPossible_14 fl_RX0_15 (hS.n 23 rfl) (hS.k 23 0 rfl) rfl (hS.r 23 1 15 rfl) ?_
    refine V_iload_n dX0_arePartsPossible_17 rfl rfl ?_
    refine V_callVi (st := []) [.int a1] dX0_arePartsPossible_18 ok_mX2_secondOf rfl ml_RX0_91 in_mX2_secondOf se_mX2_secondOf (hS.n 15 rfl) (hS.k 15 2 rfl) (by decide) rfl (Nat.le_of_ble_eq_true rfl) (by decide) (by decide) (by decide) (s_mX2_secondOf hS h) (fun r2 I9 J9 h => ?_)
    obtain ⟨rfl, rfl, h⟩ := h
    refine V_istore_n (lo2 := [(2, .int r2), (0, .ref 23), (1, .int a1)]) dX0_arePartsPossible_21 rfl (by decide) rfl ?_
    refine V_aload_n dX0_arePartsPossible_22 rfl rfl ?_
    refine V_aload_n dX0_arePartsPossible_23 rfl rfl ?_
    refine V_getr dX0_arePartsPossible_24 fl_RX0_15 (hS.n 23 rfl) (hS.k 23 0 rfl) rfl (hS.r 23 1 15 rfl) ?_
    refine V_iload_n dX0_arePartsPossible_27 rfl rfl ?_
    refine V_callVi (st := [.ref 23]) [.int a1] dX0_arePartsPossible_28 ok_mX2_firstOf rfl ml_RX0_85 in_mX2_firstOf se_mX2_firstOf (hS.n 15 rfl) (hS.k 15 2 rfl) (by decide) rfl (Nat.le_of_ble_eq_true rfl) (by decide) (by decide) (by decide) (s_mX2_firstOf hS h) (fun r3 I9 J9 h => ?_)
    obtain ⟨rfl, rfl, h⟩ := h
    refine V_callVi (st := []) [.int r3] dX0_arePartsPossible_31 ok_mX0_countOf rfl ml_RX0_65 in_mX0_countOf se_mX0_countOf (hS.n 23 rfl) (hS.k 23 0 rfl) (by decide) rfl (Nat.le_of_ble_eq_true rfl) (by decide) (by decide) (by decide) (s_mX0_countOf hS h) (fun r4 I9 J9 h => ?_)
    obtain ⟨rfl, rfl, h⟩ := h
    refine V_iconst (v := (-1)) dX0_arePartsPossible_34 (by decide) ?_
    refine V_icmp_eq 56 dX0_arePartsPossible_35 rfl (fun hc => ?_) (fun hc => ?_)
    · replace h := h.1 hc
      refine V_iconst (v := 0) dX0_arePartsPossible_56 (by decide) ?_
      exact V_zret dX0_arePartsPossible_57 rfl (by decide) (by decide) (by decide) ⟨_, rfl, rfl, rfl, rfl, h⟩
    · replace h := h.2 hc
      refine V_iload_n dX0_arePartsPossible_38 rfl rfl ?_
      refine V_iconst (v := (-1)) dX0_arePartsPossible_39 (by decide) ?_
      refine V_icmp_eq 52 dX0_arePartsPossible_40 rfl (fun hc => ?_) (fun hc => ?_)
      · replace h := h.1 hc
        refine V_iconst (v := 1) dX0_arePartsPossible_52 (by decide) ?_
        refine V_goto 57 dX0_arePartsPossible_53 rfl ?_
        exact V_zret dX0_arePartsPossible_57 rfl (by decide) (by decide) (by decide) ⟨_, rfl, rfl, rfl, rfl, h⟩
      · replace h := h.2 hc
        refine V_aload_n dX0_arePartsPossible_43 rfl rfl ?_
        refine V_iload_n dX0_arePartsPossible_44 rfl rfl ?_
        refine V_callVi (st := []) [.int r2] dX0_arePartsPossible_45 ok_mX0_countOf rfl ml_RX0_65 in_mX0_countOf se_mX0_countOf (hS.n 23 rfl) (hS.k 23 0 rfl) (by decide) rfl (Nat.le_of_ble_eq_true rfl) (by decide) (by decide) (by decide) (s_mX0_countOf hS h) (fun r5 I9 J9 h => ?_)
        obtain ⟨rfl, rfl, h⟩ := h
        refine V_iconst (v := (-1)) dX0_arePartsPossible_48 (by decide) ?_
        refine V_icmp_eq 56 dX0_arePartsPossible_49 rfl (fun hc => ?_) (fun hc => ?_)
        · replace h := h.1 hc
          refine V_iconst (v := 0) dX0_arePartsPossible_56 (by decide) ?_
          exact V_zret dX0_arePartsPossible_57 rfl (by decide) (by decide) (by decide) ⟨_, rfl, rfl, rfl, rfl, h⟩
        · replace h := h.2 hc
          refine V_iconst (v := 1) dX0_arePartsPossible_52 (by decide) ?_
          refine V_goto 57 dX0_arePartsPossible_53 rfl ?_
          exact V_zret dX0_arePartsPossible_57 rfl (by decide) (by decide) (by decide) ⟨_, rfl, rfl, rfl, rfl, h⟩
  · replace h := h.2 hc
    refine V_iconst (v := 1) dX0_arePartsPossible_11 (by decide) ?_
    exact V_zret dX0_arePartsPossible_12 rfl (by decide) (by decide) (by decide) ⟨_, rfl, rfl, rfl, rfl, h⟩
def wX0_newRow (a1 : Int32) (I : QI) (post : Int32 → QI → Prop) : Prop := ((a1 < 0 → post (-1) I) ∧ (¬ a1 < 0 → ((24 ≤ a1 → post (-1) I) ∧ (¬ 24 ≤ a1 → (vp_in a1 24 ∧ (((I 25 (a1).toNatClampNeg) < 200 → (vp_in a1 24 ∧ (vp_in a1 24 ∧ (∀ I1 : QI, I1 = q_u2 I 25 (a1).toNatClampNeg ((I 25 (a1).toNatClampNeg) + 1) → (vp_in a1 24 ∧ post ((I1 25 (a1).toNatClampNeg) - 1) I1))))) ∧ (¬ (I 25 (a1).toNatClampNeg) < 200 → post (-1) I)))))))
set_option maxRecDepth 100000 in
set_option maxHeartbeats 4000000 in
theorem s_mX0_newRow {X : QX} {S : QS} {a1 : Int32} {I : QI} {J : QJ} {post : Int32 → QI → Prop} (hS : Sh S) (h : wX0_newRow a1 I post) : CX X mX0_newRow 0 0 0 [.ref 23, .int a1] S I J (q_Pi S (fun r I2 J2 => J = J2 ∧ post r I2)) := by
  refine CX.of (lo := [(0, .ref 23), (1, .int a1)]) ok_mX0_newRow rfl (Nat.le_of_ble_eq_true rfl) rfl ?_
  replace h : ((a1 < 0 → post (-1) I) ∧ (¬ a1 < 0 → ((24 ≤ a1 → post (-1) I) ∧ (¬ 24 ≤ a1 → (vp_in a1 24 ∧ (((I 25 (a1).toNatClampNeg) < 200 → (vp_in a1 24 ∧ (vp_in a1 24 ∧ (∀ I1 : QI, I1 = q_u2 I 25 (a1).toNatClampNeg ((I 25 (a1).toNatClampNeg) + 1) → (vp_in a1 24 ∧ post ((I1 25 (a1).toNatClampNeg) - 1) I1))))) ∧ (¬ (I 25 (a1).toNatClampNeg) < 200 → post (-1) I))))))) := h
  refine V_iload_n dX0_newRow_0 rfl rfl ?_
  refine V_if_lt 22 dX0_newRow_1 rfl (fun hc => ?_) (fun hc => ?_)
  · replace h := h.1 hc
    refine V_iconst (v := (-1)) dX0_newRow_22 (by decide) ?_
    exact V_iret dX0_newRow_23 rfl (by decide) (by decide) ⟨_, rfl, rfl, rfl, h⟩
  · replace h := h.2 hc
    refine V_iload_n dX0_newRow_4 rfl rfl ?_
    refine V_bipush (v := 24) dX0_newRow_5 (by decide) ?_
    refine V_icmp_ge 22 dX0_newRow_7 rfl (fun hc => ?_) (fun hc => ?_)
    · replace h := h.1 hc
      refine V_iconst (v := (-1)) dX0_newRow_22 (by decide) ?_
      exact V_iret dX0_newRow_23 rfl (by decide) (by decide) ⟨_, rfl, rfl, rfl, h⟩
    · replace h := h.2 hc
      refine V_aload_n dX0_newRow_10 rfl rfl ?_
      refine V_getr dX0_newRow_11 fl_RX0_23 (hS.n 23 rfl) (hS.k 23 0 rfl) rfl (hS.r 23 3 25 rfl) ?_
      refine V_iload_n dX0_newRow_14 rfl rfl ?_
      obtain ⟨hb, h⟩ := h
      refine V_iald dX0_newRow_15 (hS.n 25 rfl) (hS.k 25 9 rfl) (by rw [(hS.z 25 24 rfl)]; exact hb) ?_
      refine V_sipush (v := 200) dX0_newRow_16 (by decide) ?_
      refine V_icmp_lt 24 dX0_newRow_19 rfl (fun hc => ?_) (fun hc => ?_)
      · replace h := h.1 hc
        refine V_aload_n dX0_newRow_24 rfl rfl ?_
        refine V_getr dX0_newRow_25 fl_RX0_23 (hS.n 23 rfl) (hS.k 23 0 rfl) rfl (hS.r 23 3 25 rfl) ?_
        refine V_iload_n dX0_newRow_28 rfl rfl ?_
        refine V_dup2 dX0_newRow_29 rfl rfl ?_
        obtain ⟨hb, h⟩ := h
        refine V_iald dX0_newRow_30 (hS.n 25 rfl) (hS.k 25 9 rfl) (by rw [(hS.z 25 24 rfl)]; exact hb) ?_
        refine V_iconst (v := 1) dX0_newRow_31 (by decide) ?_
        refine V_iadd dX0_newRow_32 ?_
        obtain ⟨hb, h⟩ := h
        refine V_iast dX0_newRow_33 (hS.n 25 rfl) (hS.k 25 9 rfl) (by rw [(hS.z 25 24 rfl)]; exact hb) ?_
        refine V_memI (fun I1 e_I1 => ?_)
        replace h := h I1 e_I1
        refine V_aload_n dX0_newRow_34 rfl rfl ?_
        refine V_getr dX0_newRow_35 fl_RX0_23 (hS.n 23 rfl) (hS.k 23 0 rfl) rfl (hS.r 23 3 25 rfl) ?_
        refine V_iload_n dX0_newRow_38 rfl rfl ?_
        obtain ⟨hb, h⟩ := h
        refine V_iald dX0_newRow_39 (hS.n 25 rfl) (hS.k 25 9 rfl) (by rw [(hS.z 25 24 rfl)]; exact hb) ?_
        refine V_iconst (v := 1) dX0_newRow_40 (by decide) ?_
        refine V_isub dX0_newRow_41 ?_
        exact V_iret dX0_newRow_42 rfl (by decide) (by decide) ⟨_, rfl, rfl, rfl, h⟩
      · replace h := h.2 hc
        refine V_iconst (v := (-1)) dX0_newRow_22 (by decide) ?_
        exact V_iret dX0_newRow_23 rfl (by decide) (by decide) ⟨_, rfl, rfl, rfl, h⟩
def wX0_put (a1 : Int32) (a2 : Int32) (a3 : Int32) (a4 : Int32) (I : QI) (post : QI → Prop) : Prop := (∀ v1 : Int32, v1 = (((a1 * 1200) + (a2 * 6)) + a3) → ((a2 < 0 → post I) ∧ (¬ a2 < 0 → ((v1 < 0 → post I) ∧ (¬ v1 < 0 → ((28800 ≤ v1 → post I) ∧ (¬ 28800 ≤ v1 → (vp_in v1 28800 ∧ (∀ I2 : QI, I2 = q_u2 I 24 (v1).toNatClampNeg a4 → post I2)))))))))
set_option maxRecDepth 100000 in
set_option maxHeartbeats 4000000 in
theorem s_mX0_put {X : QX} {S : QS} {a1 : Int32} {a2 : Int32} {a3 : Int32} {a4 : Int32} {I : QI} {J : QJ} {post : QI → Prop} (hS : Sh S) (h : wX0_put a1 a2 a3 a4 I post) : CX X mX0_put 0 0 0 [.ref 23, .int a1, .int a2, .int a3, .int a4] S I J (q_Pv S (fun I2 J2 => J = J2 ∧ post I2)) := by
  refine CX.of (lo := [(0, .ref 23), (1, .int a1), (2, .int a2), (3, .int a3), (4, .int a4)]) ok_mX0_put rfl (Nat.le_of_ble_eq_true rfl) rfl ?_
  replace h : (∀ v1 : Int32, v1 = (((a1 * 1200) + (a2 * 6)) + a3) → ((a2 < 0 → post I) ∧ (¬ a2 < 0 → ((v1 < 0 → post I) ∧ (¬ v1 < 0 → ((28800 ≤ v1 → post I) ∧ (¬ 28800 ≤ v1 → (vp_in v1 28800 ∧ (∀ I2 : QI, I2 = q_u2 I 24 (v1).toNatClampNeg a4 → post I2))))))))) := h
  refine V_iload_n dX0_put_0 rfl rfl ?_
  refine V_sipush (v := 1200) dX0_put_1 (by decide) ?_
  refine V_imul dX0_put_4 ?_
  refine V_iload_n dX0_put_5 rfl rfl ?_
  refine V_bipush (v := 6) dX0_put_6 (by decide) ?_
  refine V_imul dX0_put_8 ?_
  refine V_iadd dX0_put_9 ?_
  refine V_iload_n dX0_put_10 rfl rfl ?_
  refine V_iadd dX0_put_11 ?_
  refine V_topi (fun v1 e_v1 => ?_)
  replace h := h v1 e_v1
  refine V_istore (lo2 := [(5, .int v1), (0, .ref 23), (1, .int a1), (2, .int a2), (3, .int a3), (4, .int a4)]) dX0_put_12 (by decide) rfl ?_
  refine V_iload_n dX0_put_14 rfl rfl ?_
  refine V_if_lt 42 dX0_put_15 rfl (fun hc => ?_) (fun hc => ?_)
  · replace h := h.1 hc
    exact V_vret dX0_put_42 rfl (by decide) (by decide) ⟨rfl, rfl, rfl, h⟩
  · replace h := h.2 hc
    refine V_iload dX0_put_18 rfl ?_
    refine V_if_lt 42 dX0_put_20 rfl (fun hc => ?_) (fun hc => ?_)
    · replace h := h.1 hc
      exact V_vret dX0_put_42 rfl (by decide) (by decide) ⟨rfl, rfl, rfl, h⟩
    · replace h := h.2 hc
      refine V_iload dX0_put_23 rfl ?_
      refine V_aload_n dX0_put_25 rfl rfl ?_
      refine V_getr dX0_put_26 fl_RX0_19 (hS.n 23 rfl) (hS.k 23 0 rfl) rfl (hS.r 23 2 24 rfl) ?_
      refine V_alenI (v := 28800) dX0_put_29 (hS.n 24 rfl) (hS.k 24 9 rfl) (by rw [(hS.z 24 28800 rfl)]; rfl) ?_
      refine V_icmp_ge 42 dX0_put_30 rfl (fun hc => ?_) (fun hc => ?_)
      · replace h := h.1 hc
        exact V_vret dX0_put_42 rfl (by decide) (by decide) ⟨rfl, rfl, rfl, h⟩
      · replace h := h.2 hc
        refine V_aload_n dX0_put_33 rfl rfl ?_
        refine V_getr dX0_put_34 fl_RX0_19 (hS.n 23 rfl) (hS.k 23 0 rfl) rfl (hS.r 23 2 24 rfl) ?_
        refine V_iload dX0_put_37 rfl ?_
        refine V_iload dX0_put_39 rfl ?_
        obtain ⟨hb, h⟩ := h
        refine V_iast dX0_put_41 (hS.n 24 rfl) (hS.k 24 9 rfl) (by rw [(hS.z 24 28800 rfl)]; exact hb) ?_
        refine V_memI (fun I2 e_I2 => ?_)
        replace h := h I2 e_I2
        exact V_vret dX0_put_42 rfl (by decide) (by decide) ⟨rfl, rfl, rfl, h⟩
def wX0_valueAt (a1 : Int32) (a2 : Int32) (a3 : Int32) (I : QI) (post : Int32 → Prop) : Prop := (∀ v1 : Int32, v1 = (((a1 * 1200) + (a2 * 6)) + a3) → ((v1 < 0 → post (-1000)) ∧ (¬ v1 < 0 → ((28800 ≤ v1 → post (-1000)) ∧ (¬ 28800 ≤ v1 → (vp_in v1 28800 ∧ post (I 24 (v1).toNatClampNeg)))))))
set_option maxRecDepth 100000 in
set_option maxHeartbeats 4000000 in
theorem s_mX0_valueAt {X : QX} {S : QS} {a1 : Int32} {a2 : Int32} {a3 : Int32} {I : QI} {J : QJ} {post : Int32 → Prop} (hS : Sh S) (h : wX0_valueAt a1 a2 a3 I post) : CX X mX0_valueAt 0 0 0 [.ref 23, .int a1, .int a2, .int a3] S I J (q_Pi S (fun r I2 J2 => I = I2 ∧ J = J2 ∧ post r)) := by
  refine CX.of (lo := [(0, .ref 23), (1, .int a1), (2, .int a2), (3, .int a3)]) ok_mX0_valueAt rfl (Nat.le_of_ble_eq_true rfl) rfl ?_
  replace h : (∀ v1 : Int32, v1 = (((a1 * 1200) + (a2 * 6)) + a3) → ((v1 < 0 → post (-1000)) ∧ (¬ v1 < 0 → ((28800 ≤ v1 → post (-1000)) ∧ (¬ 28800 ≤ v1 → (vp_in v1 28800 ∧ post (I 24 (v1).toNatClampNeg))))))) := h
  refine V_iload_n dX0_valueAt_0 rfl rfl ?_
  refine V_sipush (v := 1200) dX0_valueAt_1 (by decide) ?_
  refine V_imul dX0_valueAt_4 ?_
  refine V_iload_n dX0_valueAt_5 rfl rfl ?_
  refine V_bipush (v := 6) dX0_valueAt_6 (by decide) ?_
  refine V_imul dX0_valueAt_8 ?_
  refine V_iadd dX0_valueAt_9 ?_
  refine V_iload_n dX0_valueAt_10 rfl rfl ?_
  refine V_iadd dX0_valueAt_11 ?_
  refine V_topi (fun v1 e_v1 => ?_)
  replace h := h v1 e_v1
  refine V_istore (lo2 := [(4, .int v1), (0, .ref 23), (1, .int a1), (2, .int a2), (3, .int a3)]) dX0_valueAt_12 (by decide) rfl ?_
  refine V_iload dX0_valueAt_14 rfl ?_
  refine V_if_lt 39 dX0_valueAt_16 rfl (fun hc => ?_) (fun hc => ?_)
  · replace h := h.1 hc
    refine V_sipush (v := (-1000)) dX0_valueAt_39 (by decide) ?_
    exact V_iret dX0_valueAt_42 rfl (by decide) (by decide) ⟨_, rfl, rfl, rfl, rfl, h⟩
  · replace h := h.2 hc
    refine V_iload dX0_valueAt_19 rfl ?_
    refine V_aload_n dX0_valueAt_21 rfl rfl ?_
    refine V_getr dX0_valueAt_22 fl_RX0_19 (hS.n 23 rfl) (hS.k 23 0 rfl) rfl (hS.r 23 2 24 rfl) ?_
    refine V_alenI (v := 28800) dX0_valueAt_25 (hS.n 24 rfl) (hS.k 24 9 rfl) (by rw [(hS.z 24 28800 rfl)]; rfl) ?_
    refine V_icmp_ge 39 dX0_valueAt_26 rfl (fun hc => ?_) (fun hc => ?_)
    · replace h := h.1 hc
      refine V_sipush (v := (-1000)) dX0_valueAt_39 (by decide) ?_
      exact V_iret dX0_valueAt_42 rfl (by decide) (by decide) ⟨_, rfl, rfl, rfl, rfl, h⟩
    · replace h := h.2 hc
      refine V_aload_n dX0_valueAt_29 rfl rfl ?_
      refine V_getr dX0_valueAt_30 fl_RX0_19 (hS.n 23 rfl) (hS.k 23 0 rfl) rfl (hS.r 23 2 24 rfl) ?_
      refine V_iload dX0_valueAt_33 rfl ?_
      obtain ⟨hb, h⟩ := h
      refine V_iald dX0_valueAt_35 (hS.n 24 rfl) (hS.k 24 9 rfl) (by rw [(hS.z 24 28800 rfl)]; exact hb) ?_
      refine V_goto 42 dX0_valueAt_36 rfl ?_
      exact V_iret dX0_valueAt_42 rfl (by decide) (by decide) ⟨_, rfl, rfl, rfl, rfl, h⟩
def wX0_copyRow_10 (a1 : Int32) (a2 : Int32) (a3 : Int32) (K46 : Int32 → QI → Prop) (post : Int32 → QI → Prop) : Nat → Int32 → Int32 → QI → Prop
  | 0, _, _, _ => False
  | n + 1, x4, x5, I => (wX2_widthOf a2 I (fun r3 => ((r3 ≤ x5 → (K46 x4 I)) ∧ (¬ r3 ≤ x5 → (wX0_valueAt a2 a3 x5 I (fun r4 => (wX0_put a1 x4 x5 r4 I (fun I5 => (∀ v6 : Int32, v6 = (x5 + 1) → (wX0_copyRow_10 a1 a2 a3 K46 post n x4 v6 I5))))))))))
set_option maxRecDepth 100000 in
set_option maxHeartbeats 4000000 in
theorem swX0_copyRow_10 {X : QX} {S : QS} {a1 : Int32} {a2 : Int32} {a3 : Int32} {J : QJ} {K46 : Int32 → QI → Prop} {post : Int32 → QI → Prop} (hS : Sh S) (hK46 : ∀ (z4 : Int32) (I : QI), K46 z4 I → V X mX0_copyRow 1 0 0 (q_Pi S (fun r I2 J2 => J = J2 ∧ post r I2)) 46 [(4, .int z4)] [] S I J 0 0) : ∀ (f : Nat) (x4 : Int32) (x5 : Int32) (I : QI), wX0_copyRow_10 a1 a2 a3 K46 post f x4 x5 I → V X mX0_copyRow 1 0 0 (q_Pi S (fun r I2 J2 => J = J2 ∧ post r I2)) 10 [(0, .ref 23), (1, .int a1), (2, .int a2), (3, .int a3), (4, .int x4), (5, .int x5)] [] S I J 0 0 := by
  intro f
  induction f with
  | zero => intro x4 x5 I h; exact h.elim
  | succ n ih =>
    intro x4 x5 I h
    replace h : (wX2_widthOf a2 I (fun r3 => ((r3 ≤ x5 → (K46 x4 I)) ∧ (¬ r3 ≤ x5 → (wX0_valueAt a2 a3 x5 I (fun r4 => (wX0_put a1 x4 x5 r4 I (fun I5 => (∀ v6 : Int32, v6 = (x5 + 1) → (wX0_copyRow_10 a1 a2 a3 K46 post n x4 v6 I5)))))))))) := h
    refine V_iload dX0_copyRow_10 rfl ?_
    refine V_aload_n dX0_copyRow_12 rfl rfl ?_
    refine V_getr dX0_copyRow_13 fl_RX0_15 (hS.n 23 rfl) (hS.k 23 0 rfl) rfl (hS.r 23 1 15 rfl) ?_
    refine V_iload_n dX0_copyRow_16 rfl rfl ?_
    refine V_callVi (st := [.int x5]) [.int a2] dX0_copyRow_17 ok_mX2_widthOf rfl ml_RX0_72 in_mX2_widthOf se_mX2_widthOf (hS.n 15 rfl) (hS.k 15 2 rfl) (by decide) rfl (Nat.le_of_ble_eq_true rfl) (by decide) (by decide) (by decide) (s_mX2_widthOf hS h) (fun r3 I9 J9 h => ?_)
    obtain ⟨rfl, rfl, h⟩ := h
    refine V_icmp_ge 46 dX0_copyRow_20 rfl (fun hc => ?_) (fun hc => ?_)
    · replace h := h.1 hc
      refine V_sub (lo2 := [(4, .int x4)]) [4] rfl ?_
      exact hK46 _ _ h
    · replace h := h.2 hc
      refine V_aload_n dX0_copyRow_23 rfl rfl ?_
      refine V_iload_n dX0_copyRow_24 rfl rfl ?_
      refine V_iload dX0_copyRow_25 rfl ?_
      refine V_iload dX0_copyRow_27 rfl ?_
      refine V_aload_n dX0_copyRow_29 rfl rfl ?_
      refine V_iload_n dX0_copyRow_30 rfl rfl ?_
      refine V_iload_n dX0_copyRow_31 rfl rfl ?_
      refine V_iload dX0_copyRow_32 rfl ?_
      refine V_callVi (st := [.int x5, .int x4, .int a1, .ref 23]) [.int a2, .int a3, .int x5] dX0_copyRow_34 ok_mX0_valueAt rfl ml_RX0_147 in_mX0_valueAt se_mX0_valueAt (hS.n 23 rfl) (hS.k 23 0 rfl) (by decide) rfl (Nat.le_of_ble_eq_true rfl) (by decide) (by decide) (by decide) (s_mX0_valueAt hS h) (fun r4 I9 J9 h => ?_)
      obtain ⟨rfl, rfl, h⟩ := h
      refine V_callVv (st := []) [.int a1, .int x4, .int x5, .int r4] dX0_copyRow_37 ok_mX0_put rfl ml_RX0_140 in_mX0_put se_mX0_put (hS.n 23 rfl) (hS.k 23 0 rfl) (by decide) rfl (Nat.le_of_ble_eq_true rfl) (by decide) (by decide) (by decide) (s_mX0_put hS h) (fun I5 J9 h => ?_)
      obtain ⟨rfl, h⟩ := h
      obtain ⟨v6, e_v6⟩ : ∃ z : Int32, z = (x5 + 1) := ⟨_, rfl⟩
      replace h := h v6 e_v6
      refine V_iinc (lo2 := [(5, .int v6), (0, .ref 23), (1, .int a1), (2, .int a2), (3, .int a3), (4, .int x4)]) 5 dX0_copyRow_40 rfl (v := v6) (by rw [e_v6]; first | done | rfl) (by decide) rfl ?_
      refine V_goto 10 dX0_copyRow_43 rfl ?_
      refine V_sub (lo2 := [(0, .ref 23), (1, .int a1), (2, .int a2), (3, .int a3), (4, .int x4), (5, .int v6)]) [1, 2, 3, 4, 5, 0] rfl ?_
      exact ih _ _ _ h
def wX0_copyRow (a1 : Int32) (a2 : Int32) (a3 : Int32) (I : QI) (post : Int32 → QI → Prop) : Prop := (wX0_newRow a1 I (fun r2 I1 => (∃ f : Nat, wX0_copyRow_10 a1 a2 a3 (fun u7 I8 => ((u7 = (-1) → post 0 I8) ∧ (¬ u7 = (-1) → post 1 I8))) post f r2 0 I1)))
set_option maxRecDepth 100000 in
set_option maxHeartbeats 4000000 in
theorem s_mX0_copyRow {X : QX} {S : QS} {a1 : Int32} {a2 : Int32} {a3 : Int32} {I : QI} {J : QJ} {post : Int32 → QI → Prop} (hS : Sh S) (h : wX0_copyRow a1 a2 a3 I post) : CX X mX0_copyRow 1 0 0 [.ref 23, .int a1, .int a2, .int a3] S I J (q_Pi S (fun r I2 J2 => J = J2 ∧ post r I2)) := by
  refine CX.of (lo := [(0, .ref 23), (1, .int a1), (2, .int a2), (3, .int a3)]) ok_mX0_copyRow rfl (Nat.le_of_ble_eq_true rfl) rfl ?_
  replace h : (wX0_newRow a1 I (fun r2 I1 => (∃ f : Nat, wX0_copyRow_10 a1 a2 a3 (fun u7 I8 => ((u7 = (-1) → post 0 I8) ∧ (¬ u7 = (-1) → post 1 I8))) post f r2 0 I1))) := h
  refine V_aload_n dX0_copyRow_0 rfl rfl ?_
  refine V_iload_n dX0_copyRow_1 rfl rfl ?_
  refine V_callVi (st := []) [.int a1] dX0_copyRow_2 ok_mX0_newRow rfl ml_RX0_131 in_mX0_newRow se_mX0_newRow (hS.n 23 rfl) (hS.k 23 0 rfl) (by decide) rfl (Nat.le_of_ble_eq_true rfl) (by decide) (by decide) (by decide) (s_mX0_newRow hS h) (fun r2 I1 J9 h => ?_)
  obtain ⟨rfl, h⟩ := h
  refine V_istore (lo2 := [(4, .int r2), (0, .ref 23), (1, .int a1), (2, .int a2), (3, .int a3)]) dX0_copyRow_5 (by decide) rfl ?_
  refine V_iconst (v := 0) dX0_copyRow_7 (by decide) ?_
  refine V_istore (lo2 := [(5, .int 0), (4, .int r2), (0, .ref 23), (1, .int a1), (2, .int a2), (3, .int a3)]) dX0_copyRow_8 (by decide) rfl ?_
  refine V_sub (lo2 := [(0, .ref 23), (1, .int a1), (2, .int a2), (3, .int a3), (4, .int r2), (5, .int 0)]) [2, 3, 4, 5, 1, 0] rfl ?_
  obtain ⟨f9, h⟩ := h
  refine swX0_copyRow_10 hS ?_ f9 _ _ _ h
  · intro u7 I8 h
    refine V_iload dX0_copyRow_46 rfl ?_
    refine V_iconst (v := (-1)) dX0_copyRow_48 (by decide) ?_
    refine V_icmp_eq 56 dX0_copyRow_49 rfl (fun hc => ?_) (fun hc => ?_)
    · replace h := h.1 hc
      refine V_iconst (v := 0) dX0_copyRow_56 (by decide) ?_
      exact V_zret dX0_copyRow_57 rfl (by decide) (by decide) (by decide) ⟨_, rfl, rfl, rfl, h⟩
    · replace h := h.2 hc
      refine V_iconst (v := 1) dX0_copyRow_52 (by decide) ?_
      refine V_goto 57 dX0_copyRow_53 rfl ?_
      exact V_zret dX0_copyRow_57 rfl (by decide) (by decide) (by decide) ⟨_, rfl, rfl, rfl, h⟩
def wX0_copyAll_2 (a1 : Int32) (a2 : Int32) (post : Int32 → QI → Prop) : Nat → Int32 → QI → Prop
  | 0, _, _ => False
  | n + 1, x3, I => (wX0_countOf a2 I (fun r1 => ((r1 ≤ x3 → post 1 I) ∧ (¬ r1 ≤ x3 → (wX0_copyRow a1 a2 x3 I (fun r3 I2 => ((¬ r3 = 0 → (∀ v4 : Int32, v4 = (x3 + 1) → (wX0_copyAll_2 a1 a2 post n v4 I2))) ∧ (r3 = 0 → post 0 I2))))))))
set_option maxRecDepth 100000 in
set_option maxHeartbeats 4000000 in
theorem swX0_copyAll_2 {X : QX} {S : QS} {a1 : Int32} {a2 : Int32} {J : QJ} {post : Int32 → QI → Prop} (hS : Sh S) : ∀ (f : Nat) (x3 : Int32) (I : QI), wX0_copyAll_2 a1 a2 post f x3 I → V X mX0_copyAll 2 0 0 (q_Pi S (fun r I2 J2 => J = J2 ∧ post r I2)) 2 [(0, .ref 23), (1, .int a1), (2, .int a2), (3, .int x3)] [] S I J 0 0 := by
  intro f
  induction f with
  | zero => intro x3 I h; exact h.elim
  | succ n ih =>
    intro x3 I h
    replace h : (wX0_countOf a2 I (fun r1 => ((r1 ≤ x3 → post 1 I) ∧ (¬ r1 ≤ x3 → (wX0_copyRow a1 a2 x3 I (fun r3 I2 => ((¬ r3 = 0 → (∀ v4 : Int32, v4 = (x3 + 1) → (wX0_copyAll_2 a1 a2 post n v4 I2))) ∧ (r3 = 0 → post 0 I2)))))))) := h
    refine V_iload_n dX0_copyAll_2 rfl rfl ?_
    refine V_aload_n dX0_copyAll_3 rfl rfl ?_
    refine V_iload_n dX0_copyAll_4 rfl rfl ?_
    refine V_callVi (st := [.int x3]) [.int a2] dX0_copyAll_5 ok_mX0_countOf rfl ml_RX0_65 in_mX0_countOf se_mX0_countOf (hS.n 23 rfl) (hS.k 23 0 rfl) (by decide) rfl (Nat.le_of_ble_eq_true rfl) (by decide) (by decide) (by decide) (s_mX0_countOf hS h) (fun r1 I9 J9 h => ?_)
    obtain ⟨rfl, rfl, h⟩ := h
    refine V_icmp_ge 29 dX0_copyAll_8 rfl (fun hc => ?_) (fun hc => ?_)
    · replace h := h.1 hc
      refine V_iconst (v := 1) dX0_copyAll_29 (by decide) ?_
      exact V_zret dX0_copyAll_30 rfl (by decide) (by decide) (by decide) ⟨_, rfl, rfl, rfl, h⟩
    · replace h := h.2 hc
      refine V_aload_n dX0_copyAll_11 rfl rfl ?_
      refine V_iload_n dX0_copyAll_12 rfl rfl ?_
      refine V_iload_n dX0_copyAll_13 rfl rfl ?_
      refine V_iload_n dX0_copyAll_14 rfl rfl ?_
      refine V_callVi (st := []) [.int a1, .int a2, .int x3] dX0_copyAll_15 ok_mX0_copyRow rfl ml_RX0_157 in_mX0_copyRow se_mX0_copyRow (hS.n 23 rfl) (hS.k 23 0 rfl) (by decide) rfl (Nat.le_of_ble_eq_true rfl) (by decide) (by decide) (by decide) (s_mX0_copyRow hS h) (fun r3 I2 J9 h => ?_)
      obtain ⟨rfl, h⟩ := h
      refine V_if_ne 23 dX0_copyAll_18 rfl (fun hc => ?_) (fun hc => ?_)
      · replace h := h.1 hc
        obtain ⟨v4, e_v4⟩ : ∃ z : Int32, z = (x3 + 1) := ⟨_, rfl⟩
        replace h := h v4 e_v4
        refine V_iinc (lo2 := [(3, .int v4), (0, .ref 23), (1, .int a1), (2, .int a2)]) 3 dX0_copyAll_23 rfl (v := v4) (by rw [e_v4]; first | done | rfl) (by decide) rfl ?_
        refine V_goto 2 dX0_copyAll_26 rfl ?_
        refine V_sub (lo2 := [(0, .ref 23), (1, .int a1), (2, .int a2), (3, .int v4)]) [1, 2, 3, 0] rfl ?_
        exact ih _ _ h
      · replace h := h.2 hc
        refine V_iconst (v := 0) dX0_copyAll_21 (by decide) ?_
        exact V_zret dX0_copyAll_22 rfl (by decide) (by decide) (by decide) ⟨_, rfl, rfl, rfl, h⟩
def wX0_copyAll (a1 : Int32) (a2 : Int32) (I : QI) (post : Int32 → QI → Prop) : Prop := (∃ f : Nat, wX0_copyAll_2 a1 a2 post f 0 I)
set_option maxRecDepth 100000 in
set_option maxHeartbeats 4000000 in
theorem s_mX0_copyAll {X : QX} {S : QS} {a1 : Int32} {a2 : Int32} {I : QI} {J : QJ} {post : Int32 → QI → Prop} (hS : Sh S) (h : wX0_copyAll a1 a2 I post) : CX X mX0_copyAll 2 0 0 [.ref 23, .int a1, .int a2] S I J (q_Pi S (fun r I2 J2 => J = J2 ∧ post r I2)) := by
  refine CX.of (lo := [(0, .ref 23), (1, .int a1), (2, .int a2)]) ok_mX0_copyAll rfl (Nat.le_of_ble_eq_true rfl) rfl ?_
  replace h : (∃ f : Nat, wX0_copyAll_2 a1 a2 post f 0 I) := h
  refine V_iconst (v := 0) dX0_copyAll_0 (by decide) ?_
  refine V_istore_n (lo2 := [(3, .int 0), (0, .ref 23), (1, .int a1), (2, .int a2)]) dX0_copyAll_1 rfl (by decide) rfl ?_
  refine V_sub (lo2 := [(0, .ref 23), (1, .int a1), (2, .int a2), (3, .int 0)]) [1, 2, 3, 0] rfl ?_
  obtain ⟨f9, h⟩ := h
  refine swX0_copyAll_2 hS f9 _ _ h
def wX0_areAlike_38 (a1 : Int32) (a2 : Int32) (a3 : Int32) (a4 : Int32) (I : QI) (post : Int32 → Prop) : Nat → Int32 → Int32 → Int32 → Prop
  | 0, _, _, _ => False
  | n + 1, x5, x6, x7 => ((x7 ≤ x5 → post 1) ∧ (¬ x7 ≤ x5 → ((x5 < 0 → post 1) ∧ (¬ x5 < 0 → ((28800 ≤ x5 → post 1) ∧ (¬ 28800 ≤ x5 → ((x6 < 0 → post 1) ∧ (¬ x6 < 0 → ((28800 ≤ x6 → post 1) ∧ (¬ 28800 ≤ x6 → (vp_in x5 28800 ∧ (vp_in x6 28800 ∧ (((I 24 (x5).toNatClampNeg) = (I 24 (x6).toNatClampNeg) → (∀ v5 : Int32, v5 = (x5 + 1) → (∀ v6 : Int32, v6 = (x6 + 1) → (wX0_areAlike_38 a1 a2 a3 a4 I post n v5 v6 x7)))) ∧ (¬ (I 24 (x5).toNatClampNeg) = (I 24 (x6).toNatClampNeg) → post 0))))))))))))))
set_option maxRecDepth 100000 in
set_option maxHeartbeats 4000000 in
theorem swX0_areAlike_38 {X : QX} {S : QS} {a1 : Int32} {a2 : Int32} {a3 : Int32} {a4 : Int32} {I : QI} {J : QJ} {post : Int32 → Prop} (hS : Sh S) : ∀ (f : Nat) (x5 : Int32) (x6 : Int32) (x7 : Int32), wX0_areAlike_38 a1 a2 a3 a4 I post f x5 x6 x7 → V X mX0_areAlike 1 0 0 (q_Pi S (fun r I2 J2 => I = I2 ∧ J = J2 ∧ post r)) 38 [(0, .ref 23), (5, .int x5), (6, .int x6), (7, .int x7)] [] S I J 0 0 := by
  intro f
  induction f with
  | zero => intro x5 x6 x7 h; exact h.elim
  | succ n ih =>
    intro x5 x6 x7 h
    replace h : ((x7 ≤ x5 → post 1) ∧ (¬ x7 ≤ x5 → ((x5 < 0 → post 1) ∧ (¬ x5 < 0 → ((28800 ≤ x5 → post 1) ∧ (¬ 28800 ≤ x5 → ((x6 < 0 → post 1) ∧ (¬ x6 < 0 → ((28800 ≤ x6 → post 1) ∧ (¬ 28800 ≤ x6 → (vp_in x5 28800 ∧ (vp_in x6 28800 ∧ (((I 24 (x5).toNatClampNeg) = (I 24 (x6).toNatClampNeg) → (∀ v5 : Int32, v5 = (x5 + 1) → (∀ v6 : Int32, v6 = (x6 + 1) → (wX0_areAlike_38 a1 a2 a3 a4 I post n v5 v6 x7)))) ∧ (¬ (I 24 (x5).toNatClampNeg) = (I 24 (x6).toNatClampNeg) → post 0)))))))))))))) := h
    refine V_iload dX0_areAlike_38 rfl ?_
    refine V_iload dX0_areAlike_40 rfl ?_
    refine V_icmp_ge 103 dX0_areAlike_42 rfl (fun hc => ?_) (fun hc => ?_)
    · replace h := h.1 hc
      refine V_iconst (v := 1) dX0_areAlike_103 (by decide) ?_
      exact V_zret dX0_areAlike_104 rfl (by decide) (by decide) (by decide) ⟨_, rfl, rfl, rfl, rfl, h⟩
    · replace h := h.2 hc
      refine V_iload dX0_areAlike_45 rfl ?_
      refine V_if_lt 103 dX0_areAlike_47 rfl (fun hc => ?_) (fun hc => ?_)
      · replace h := h.1 hc
        refine V_iconst (v := 1) dX0_areAlike_103 (by decide) ?_
        exact V_zret dX0_areAlike_104 rfl (by decide) (by decide) (by decide) ⟨_, rfl, rfl, rfl, rfl, h⟩
      · replace h := h.2 hc
        refine V_iload dX0_areAlike_50 rfl ?_
        refine V_aload_n dX0_areAlike_52 rfl rfl ?_
        refine V_getr dX0_areAlike_53 fl_RX0_19 (hS.n 23 rfl) (hS.k 23 0 rfl) rfl (hS.r 23 2 24 rfl) ?_
        refine V_alenI (v := 28800) dX0_areAlike_56 (hS.n 24 rfl) (hS.k 24 9 rfl) (by rw [(hS.z 24 28800 rfl)]; rfl) ?_
        refine V_icmp_ge 103 dX0_areAlike_57 rfl (fun hc => ?_) (fun hc => ?_)
        · replace h := h.1 hc
          refine V_iconst (v := 1) dX0_areAlike_103 (by decide) ?_
          exact V_zret dX0_areAlike_104 rfl (by decide) (by decide) (by decide) ⟨_, rfl, rfl, rfl, rfl, h⟩
        · replace h := h.2 hc
          refine V_iload dX0_areAlike_60 rfl ?_
          refine V_if_lt 103 dX0_areAlike_62 rfl (fun hc => ?_) (fun hc => ?_)
          · replace h := h.1 hc
            refine V_iconst (v := 1) dX0_areAlike_103 (by decide) ?_
            exact V_zret dX0_areAlike_104 rfl (by decide) (by decide) (by decide) ⟨_, rfl, rfl, rfl, rfl, h⟩
          · replace h := h.2 hc
            refine V_iload dX0_areAlike_65 rfl ?_
            refine V_aload_n dX0_areAlike_67 rfl rfl ?_
            refine V_getr dX0_areAlike_68 fl_RX0_19 (hS.n 23 rfl) (hS.k 23 0 rfl) rfl (hS.r 23 2 24 rfl) ?_
            refine V_alenI (v := 28800) dX0_areAlike_71 (hS.n 24 rfl) (hS.k 24 9 rfl) (by rw [(hS.z 24 28800 rfl)]; rfl) ?_
            refine V_icmp_ge 103 dX0_areAlike_72 rfl (fun hc => ?_) (fun hc => ?_)
            · replace h := h.1 hc
              refine V_iconst (v := 1) dX0_areAlike_103 (by decide) ?_
              exact V_zret dX0_areAlike_104 rfl (by decide) (by decide) (by decide) ⟨_, rfl, rfl, rfl, rfl, h⟩
            · replace h := h.2 hc
              refine V_aload_n dX0_areAlike_75 rfl rfl ?_
              refine V_getr dX0_areAlike_76 fl_RX0_19 (hS.n 23 rfl) (hS.k 23 0 rfl) rfl (hS.r 23 2 24 rfl) ?_
              refine V_iload dX0_areAlike_79 rfl ?_
              obtain ⟨hb, h⟩ := h
              refine V_iald dX0_areAlike_81 (hS.n 24 rfl) (hS.k 24 9 rfl) (by rw [(hS.z 24 28800 rfl)]; exact hb) ?_
              refine V_aload_n dX0_areAlike_82 rfl rfl ?_
              refine V_getr dX0_areAlike_83 fl_RX0_19 (hS.n 23 rfl) (hS.k 23 0 rfl) rfl (hS.r 23 2 24 rfl) ?_
              refine V_iload dX0_areAlike_86 rfl ?_
              obtain ⟨hb, h⟩ := h
              refine V_iald dX0_areAlike_88 (hS.n 24 rfl) (hS.k 24 9 rfl) (by rw [(hS.z 24 28800 rfl)]; exact hb) ?_
              refine V_icmp_eq 94 dX0_areAlike_89 rfl (fun hc => ?_) (fun hc => ?_)
              · replace h := h.1 hc
                obtain ⟨v5, e_v5⟩ : ∃ z : Int32, z = (x5 + 1) := ⟨_, rfl⟩
                replace h := h v5 e_v5
                refine V_iinc (lo2 := [(5, .int v5), (0, .ref 23), (6, .int x6), (7, .int x7)]) 1 dX0_areAlike_94 rfl (v := v5) (by rw [e_v5]; first | done | rfl) (by decide) rfl ?_
                obtain ⟨v6, e_v6⟩ : ∃ z : Int32, z = (x6 + 1) := ⟨_, rfl⟩
                replace h := h v6 e_v6
                refine V_iinc (lo2 := [(6, .int v6), (5, .int v5), (0, .ref 23), (7, .int x7)]) 2 dX0_areAlike_97 rfl (v := v6) (by rw [e_v6]; first | done | rfl) (by decide) rfl ?_
                refine V_goto 38 dX0_areAlike_100 rfl ?_
                refine V_sub (lo2 := [(0, .ref 23), (5, .int v5), (6, .int v6), (7, .int x7)]) [2, 1, 0, 3] rfl ?_
                exact ih _ _ _ h
              · replace h := h.2 hc
                refine V_iconst (v := 0) dX0_areAlike_92 (by decide) ?_
                exact V_zret dX0_areAlike_93 rfl (by decide) (by decide) (by decide) ⟨_, rfl, rfl, rfl, rfl, h⟩
def wX0_areAlike (a1 : Int32) (a2 : Int32) (a3 : Int32) (a4 : Int32) (I : QI) (post : Int32 → Prop) : Prop := (∀ v1 : Int32, v1 = ((a1 * 1200) + (a2 * 6)) → (∀ v2 : Int32, v2 = ((a3 * 1200) + (a4 * 6)) → (wX2_widthOf a1 I (fun r3 => (∀ v4 : Int32, v4 = (v1 + r3) → (∃ f : Nat, wX0_areAlike_38 a1 a2 a3 a4 I post f v1 v2 v4))))))
set_option maxRecDepth 100000 in
set_option maxHeartbeats 4000000 in
theorem s_mX0_areAlike {X : QX} {S : QS} {a1 : Int32} {a2 : Int32} {a3 : Int32} {a4 : Int32} {I : QI} {J : QJ} {post : Int32 → Prop} (hS : Sh S) (h : wX0_areAlike a1 a2 a3 a4 I post) : CX X mX0_areAlike 1 0 0 [.ref 23, .int a1, .int a2, .int a3, .int a4] S I J (q_Pi S (fun r I2 J2 => I = I2 ∧ J = J2 ∧ post r)) := by
  refine CX.of (lo := [(0, .ref 23), (1, .int a1), (2, .int a2), (3, .int a3), (4, .int a4)]) ok_mX0_areAlike rfl (Nat.le_of_ble_eq_true rfl) rfl ?_
  replace h : (∀ v1 : Int32, v1 = ((a1 * 1200) + (a2 * 6)) → (∀ v2 : Int32, v2 = ((a3 * 1200) + (a4 * 6)) → (wX2_widthOf a1 I (fun r3 => (∀ v4 : Int32, v4 = (v1 + r3) → (∃ f : Nat, wX0_areAlike_38 a1 a2 a3 a4 I post f v1 v2 v4)))))) := h
  refine V_iload_n dX0_areAlike_0 rfl rfl ?_
  refine V_sipush (v := 1200) dX0_areAlike_1 (by decide) ?_
  refine V_imul dX0_areAlike_4 ?_
  refine V_iload_n dX0_areAlike_5 rfl rfl ?_
  refine V_bipush (v := 6) dX0_areAlike_6 (by decide) ?_
  refine V_imul dX0_areAlike_8 ?_
  refine V_iadd dX0_areAlike_9 ?_
  refine V_topi (fun v1 e_v1 => ?_)
  replace h := h v1 e_v1
  refine V_istore (lo2 := [(5, .int v1), (0, .ref 23), (1, .int a1), (2, .int a2), (3, .int a3), (4, .int a4)]) dX0_areAlike_10 (by decide) rfl ?_
  refine V_iload_n dX0_areAlike_12 rfl rfl ?_
  refine V_sipush (v := 1200) dX0_areAlike_13 (by decide) ?_
  refine V_imul dX0_areAlike_16 ?_
  refine V_iload dX0_areAlike_17 rfl ?_
  refine V_bipush (v := 6) dX0_areAlike_19 (by decide) ?_
  refine V_imul dX0_areAlike_21 ?_
  refine V_iadd dX0_areAlike_22 ?_
  refine V_topi (fun v2 e_v2 => ?_)
  replace h := h v2 e_v2
  refine V_istore (lo2 := [(6, .int v2), (5, .int v1), (0, .ref 23), (1, .int a1), (2, .int a2), (3, .int a3), (4, .int a4)]) dX0_areAlike_23 (by decide) rfl ?_
  refine V_iload dX0_areAlike_25 rfl ?_
  refine V_aload_n dX0_areAlike_27 rfl rfl ?_
  refine V_getr dX0_areAlike_28 fl_RX0_15 (hS.n 23 rfl) (hS.k 23 0 rfl) rfl (hS.r 23 1 15 rfl) ?_
  refine V_iload_n dX0_areAlike_31 rfl rfl ?_
  refine V_callVi (st := [.int v1]) [.int a1] dX0_areAlike_32 ok_mX2_widthOf rfl ml_RX0_72 in_mX2_widthOf se_mX2_widthOf (hS.n 15 rfl) (hS.k 15 2 rfl) (by decide) rfl (Nat.le_of_ble_eq_true rfl) (by decide) (by decide) (by decide) (s_mX2_widthOf hS h) (fun r3 I9 J9 h => ?_)
  obtain ⟨rfl, rfl, h⟩ := h
  refine V_iadd dX0_areAlike_35 ?_
  refine V_topi (fun v4 e_v4 => ?_)
  replace h := h v4 e_v4
  refine V_istore (lo2 := [(7, .int v4), (6, .int v2), (5, .int v1), (0, .ref 23), (1, .int a1), (2, .int a2), (3, .int a3), (4, .int a4)]) dX0_areAlike_36 (by decide) rfl ?_
  refine V_sub (lo2 := [(0, .ref 23), (5, .int v1), (6, .int v2), (7, .int v4)]) [3, 2, 1, 0] rfl ?_
  obtain ⟨f9, h⟩ := h
  refine swX0_areAlike_38 hS f9 _ _ _ h
def wX0_hasRowOf_10 (a1 : Int32) (a2 : Int32) (a3 : Int32) (I : QI) (post : Int32 → Prop) : Nat → Int32 → Int32 → Prop
  | 0, _, _ => False
  | n + 1, x4, x5 => ((x4 ≤ x5 → post 0) ∧ (¬ x4 ≤ x5 → (wX0_areAlike a1 x5 a2 a3 I (fun r2 => ((r2 = 0 → (∀ v3 : Int32, v3 = (x5 + 1) → (wX0_hasRowOf_10 a1 a2 a3 I post n x4 v3))) ∧ (¬ r2 = 0 → post 1))))))
set_option maxRecDepth 100000 in
set_option maxHeartbeats 4000000 in
theorem swX0_hasRowOf_10 {X : QX} {S : QS} {a1 : Int32} {a2 : Int32} {a3 : Int32} {I : QI} {J : QJ} {post : Int32 → Prop} (hS : Sh S) : ∀ (f : Nat) (x4 : Int32) (x5 : Int32), wX0_hasRowOf_10 a1 a2 a3 I post f x4 x5 → V X mX0_hasRowOf 2 0 0 (q_Pi S (fun r I2 J2 => I = I2 ∧ J = J2 ∧ post r)) 10 [(0, .ref 23), (1, .int a1), (2, .int a2), (3, .int a3), (4, .int x4), (5, .int x5)] [] S I J 0 0 := by
  intro f
  induction f with
  | zero => intro x4 x5 h; exact h.elim
  | succ n ih =>
    intro x4 x5 h
    replace h : ((x4 ≤ x5 → post 0) ∧ (¬ x4 ≤ x5 → (wX0_areAlike a1 x5 a2 a3 I (fun r2 => ((r2 = 0 → (∀ v3 : Int32, v3 = (x5 + 1) → (wX0_hasRowOf_10 a1 a2 a3 I post n x4 v3))) ∧ (¬ r2 = 0 → post 1)))))) := h
    refine V_iload dX0_hasRowOf_10 rfl ?_
    refine V_iload dX0_hasRowOf_12 rfl ?_
    refine V_icmp_ge 37 dX0_hasRowOf_14 rfl (fun hc => ?_) (fun hc => ?_)
    · replace h := h.1 hc
      refine V_iconst (v := 0) dX0_hasRowOf_37 (by decide) ?_
      exact V_zret dX0_hasRowOf_38 rfl (by decide) (by decide) (by decide) ⟨_, rfl, rfl, rfl, rfl, h⟩
    · replace h := h.2 hc
      refine V_aload_n dX0_hasRowOf_17 rfl rfl ?_
      refine V_iload_n dX0_hasRowOf_18 rfl rfl ?_
      refine V_iload dX0_hasRowOf_19 rfl ?_
      refine V_iload_n dX0_hasRowOf_21 rfl rfl ?_
      refine V_iload_n dX0_hasRowOf_22 rfl rfl ?_
      refine V_callVi (st := []) [.int a1, .int x5, .int a2, .int a3] dX0_hasRowOf_23 ok_mX0_areAlike rfl ml_RX0_195 in_mX0_areAlike se_mX0_areAlike (hS.n 23 rfl) (hS.k 23 0 rfl) (by decide) rfl (Nat.le_of_ble_eq_true rfl) (by decide) (by decide) (by decide) (s_mX0_areAlike hS h) (fun r2 I9 J9 h => ?_)
      obtain ⟨rfl, rfl, h⟩ := h
      refine V_if_eq 31 dX0_hasRowOf_26 rfl (fun hc => ?_) (fun hc => ?_)
      · replace h := h.1 hc
        obtain ⟨v3, e_v3⟩ : ∃ z : Int32, z = (x5 + 1) := ⟨_, rfl⟩
        replace h := h v3 e_v3
        refine V_iinc (lo2 := [(5, .int v3), (0, .ref 23), (1, .int a1), (2, .int a2), (3, .int a3), (4, .int x4)]) 5 dX0_hasRowOf_31 rfl (v := v3) (by rw [e_v3]; first | done | rfl) (by decide) rfl ?_
        refine V_goto 10 dX0_hasRowOf_34 rfl ?_
        refine V_sub (lo2 := [(0, .ref 23), (1, .int a1), (2, .int a2), (3, .int a3), (4, .int x4), (5, .int v3)]) [1, 2, 3, 4, 5, 0] rfl ?_
        exact ih _ _ h
      · replace h := h.2 hc
        refine V_iconst (v := 1) dX0_hasRowOf_29 (by decide) ?_
        exact V_zret dX0_hasRowOf_30 rfl (by decide) (by decide) (by decide) ⟨_, rfl, rfl, rfl, rfl, h⟩
def wX0_hasRowOf (a1 : Int32) (a2 : Int32) (a3 : Int32) (I : QI) (post : Int32 → Prop) : Prop := (wX0_countOf a1 I (fun r1 => (∃ f : Nat, wX0_hasRowOf_10 a1 a2 a3 I post f r1 0)))
set_option maxRecDepth 100000 in
set_option maxHeartbeats 4000000 in
theorem s_mX0_hasRowOf {X : QX} {S : QS} {a1 : Int32} {a2 : Int32} {a3 : Int32} {I : QI} {J : QJ} {post : Int32 → Prop} (hS : Sh S) (h : wX0_hasRowOf a1 a2 a3 I post) : CX X mX0_hasRowOf 2 0 0 [.ref 23, .int a1, .int a2, .int a3] S I J (q_Pi S (fun r I2 J2 => I = I2 ∧ J = J2 ∧ post r)) := by
  refine CX.of (lo := [(0, .ref 23), (1, .int a1), (2, .int a2), (3, .int a3)]) ok_mX0_hasRowOf rfl (Nat.le_of_ble_eq_true rfl) rfl ?_
  replace h : (wX0_countOf a1 I (fun r1 => (∃ f : Nat, wX0_hasRowOf_10 a1 a2 a3 I post f r1 0))) := h
  refine V_aload_n dX0_hasRowOf_0 rfl rfl ?_
  refine V_iload_n dX0_hasRowOf_1 rfl rfl ?_
  refine V_callVi (st := []) [.int a1] dX0_hasRowOf_2 ok_mX0_countOf rfl ml_RX0_65 in_mX0_countOf se_mX0_countOf (hS.n 23 rfl) (hS.k 23 0 rfl) (by decide) rfl (Nat.le_of_ble_eq_true rfl) (by decide) (by decide) (by decide) (s_mX0_countOf hS h) (fun r1 I9 J9 h => ?_)
  obtain ⟨rfl, rfl, h⟩ := h
  refine V_istore (lo2 := [(4, .int r1), (0, .ref 23), (1, .int a1), (2, .int a2), (3, .int a3)]) dX0_hasRowOf_5 (by decide) rfl ?_
  refine V_iconst (v := 0) dX0_hasRowOf_7 (by decide) ?_
  refine V_istore (lo2 := [(5, .int 0), (4, .int r1), (0, .ref 23), (1, .int a1), (2, .int a2), (3, .int a3)]) dX0_hasRowOf_8 (by decide) rfl ?_
  refine V_sub (lo2 := [(0, .ref 23), (1, .int a1), (2, .int a2), (3, .int a3), (4, .int r1), (5, .int 0)]) [2, 3, 4, 5, 1, 0] rfl ?_
  obtain ⟨f9, h⟩ := h
  refine swX0_hasRowOf_10 hS f9 _ _ h
def wX0_copyNew_2 (a1 : Int32) (a2 : Int32) (post : Int32 → QI → Prop) : Nat → Int32 → QI → Prop
  | 0, _, _ => False
  | n + 1, x3, I => (wX0_countOf a2 I (fun r1 => ((r1 ≤ x3 → post 1 I) ∧ (¬ r1 ≤ x3 → (wX0_hasRowOf a1 a2 x3 I (fun r2 => ((¬ r2 = 0 → (∀ v3 : Int32, v3 = (x3 + 1) → (wX0_copyNew_2 a1 a2 post n v3 I))) ∧ (r2 = 0 → (wX0_copyRow a1 a2 x3 I (fun r5 I4 => ((¬ r5 = 0 → (∀ v6 : Int32, v6 = (x3 + 1) → (wX0_copyNew_2 a1 a2 post n v6 I4))) ∧ (r5 = 0 → post 0 I4))))))))))))
set_option maxRecDepth 100000 in
set_option maxHeartbeats 4000000 in
theorem swX0_copyNew_2 {X : QX} {S : QS} {a1 : Int32} {a2 : Int32} {J : QJ} {post : Int32 → QI → Prop} (hS : Sh S) : ∀ (f : Nat) (x3 : Int32) (I : QI), wX0_copyNew_2 a1 a2 post f x3 I → V X mX0_copyNew 3 0 0 (q_Pi S (fun r I2 J2 => J = J2 ∧ post r I2)) 2 [(0, .ref 23), (1, .int a1), (2, .int a2), (3, .int x3)] [] S I J 0 0 := by
  intro f
  induction f with
  | zero => intro x3 I h; exact h.elim
  | succ n ih =>
    intro x3 I h
    replace h : (wX0_countOf a2 I (fun r1 => ((r1 ≤ x3 → post 1 I) ∧ (¬ r1 ≤ x3 → (wX0_hasRowOf a1 a2 x3 I (fun r2 => ((¬ r2 = 0 → (∀ v3 : Int32, v3 = (x3 + 1) → (wX0_copyNew_2 a1 a2 post n v3 I))) ∧ (r2 = 0 → (wX0_copyRow a1 a2 x3 I (fun r5 I4 => ((¬ r5 = 0 → (∀ v6 : Int32, v6 = (x3 + 1) → (wX0_copyNew_2 a1 a2 post n v6 I4))) ∧ (r5 = 0 → post 0 I4)))))))))))) := h
    refine V_iload_n dX0_copyNew_2 rfl rfl ?_
    refine V_aload_n dX0_copyNew_3 rfl rfl ?_
    refine V_iload_n dX0_copyNew_4 rfl rfl ?_
    refine V_callVi (st := [.int x3]) [.int a2] dX0_copyNew_5 ok_mX0_countOf rfl ml_RX0_65 in_mX0_countOf se_mX0_countOf (hS.n 23 rfl) (hS.k 23 0 rfl) (by decide) rfl (Nat.le_of_ble_eq_true rfl) (by decide) (by decide) (by decide) (s_mX0_countOf hS h) (fun r1 I9 J9 h => ?_)
    obtain ⟨rfl, rfl, h⟩ := h
    refine V_icmp_ge 39 dX0_copyNew_8 rfl (fun hc => ?_) (fun hc => ?_)
    · replace h := h.1 hc
      refine V_iconst (v := 1) dX0_copyNew_39 (by decide) ?_
      exact V_zret dX0_copyNew_40 rfl (by decide) (by decide) (by decide) ⟨_, rfl, rfl, rfl, h⟩
    · replace h := h.2 hc
      refine V_aload_n dX0_copyNew_11 rfl rfl ?_
      refine V_iload_n dX0_copyNew_12 rfl rfl ?_
      refine V_iload_n dX0_copyNew_13 rfl rfl ?_
      refine V_iload_n dX0_copyNew_14 rfl rfl ?_
      refine V_callVi (st := []) [.int a1, .int a2, .int x3] dX0_copyNew_15 ok_mX0_hasRowOf rfl ml_RX0_192 in_mX0_hasRowOf se_mX0_hasRowOf (hS.n 23 rfl) (hS.k 23 0 rfl) (by decide) rfl (Nat.le_of_ble_eq_true rfl) (by decide) (by decide) (by decide) (s_mX0_hasRowOf hS h) (fun r2 I9 J9 h => ?_)
      obtain ⟨rfl, rfl, h⟩ := h
      refine V_if_ne 33 dX0_copyNew_18 rfl (fun hc => ?_) (fun hc => ?_)
      · replace h := h.1 hc
        obtain ⟨v3, e_v3⟩ : ∃ z : Int32, z = (x3 + 1) := ⟨_, rfl⟩
        replace h := h v3 e_v3
        refine V_iinc (lo2 := [(3, .int v3), (0, .ref 23), (1, .int a1), (2, .int a2)]) 3 dX0_copyNew_33 rfl (v := v3) (by rw [e_v3]; first | done | rfl) (by decide) rfl ?_
        refine V_goto 2 dX0_copyNew_36 rfl ?_
        refine V_sub (lo2 := [(0, .ref 23), (1, .int a1), (2, .int a2), (3, .int v3)]) [1, 2, 3, 0] rfl ?_
        exact ih _ _ h
      · replace h := h.2 hc
        refine V_aload_n dX0_copyNew_21 rfl rfl ?_
        refine V_iload_n dX0_copyNew_22 rfl rfl ?_
        refine V_iload_n dX0_copyNew_23 rfl rfl ?_
        refine V_iload_n dX0_copyNew_24 rfl rfl ?_
        refine V_callVi (st := []) [.int a1, .int a2, .int x3] dX0_copyNew_25 ok_mX0_copyRow rfl ml_RX0_157 in_mX0_copyRow se_mX0_copyRow (hS.n 23 rfl) (hS.k 23 0 rfl) (by decide) rfl (Nat.le_of_ble_eq_true rfl) (by decide) (by decide) (by decide) (s_mX0_copyRow hS h) (fun r5 I4 J9 h => ?_)
        obtain ⟨rfl, h⟩ := h
        refine V_if_ne 33 dX0_copyNew_28 rfl (fun hc => ?_) (fun hc => ?_)
        · replace h := h.1 hc
          obtain ⟨v6, e_v6⟩ : ∃ z : Int32, z = (x3 + 1) := ⟨_, rfl⟩
          replace h := h v6 e_v6
          refine V_iinc (lo2 := [(3, .int v6), (0, .ref 23), (1, .int a1), (2, .int a2)]) 3 dX0_copyNew_33 rfl (v := v6) (by rw [e_v6]; first | done | rfl) (by decide) rfl ?_
          refine V_goto 2 dX0_copyNew_36 rfl ?_
          refine V_sub (lo2 := [(0, .ref 23), (1, .int a1), (2, .int a2), (3, .int v6)]) [1, 2, 3, 0] rfl ?_
          exact ih _ _ h
        · replace h := h.2 hc
          refine V_iconst (v := 0) dX0_copyNew_31 (by decide) ?_
          exact V_zret dX0_copyNew_32 rfl (by decide) (by decide) (by decide) ⟨_, rfl, rfl, rfl, h⟩
def wX0_copyNew (a1 : Int32) (a2 : Int32) (I : QI) (post : Int32 → QI → Prop) : Prop := (∃ f : Nat, wX0_copyNew_2 a1 a2 post f 0 I)
set_option maxRecDepth 100000 in
set_option maxHeartbeats 4000000 in
theorem s_mX0_copyNew {X : QX} {S : QS} {a1 : Int32} {a2 : Int32} {I : QI} {J : QJ} {post : Int32 → QI → Prop} (hS : Sh S) (h : wX0_copyNew a1 a2 I post) : CX X mX0_copyNew 3 0 0 [.ref 23, .int a1, .int a2] S I J (q_Pi S (fun r I2 J2 => J = J2 ∧ post r I2)) := by
  refine CX.of (lo := [(0, .ref 23), (1, .int a1), (2, .int a2)]) ok_mX0_copyNew rfl (Nat.le_of_ble_eq_true rfl) rfl ?_
  replace h : (∃ f : Nat, wX0_copyNew_2 a1 a2 post f 0 I) := h
  refine V_iconst (v := 0) dX0_copyNew_0 (by decide) ?_
  refine V_istore_n (lo2 := [(3, .int 0), (0, .ref 23), (1, .int a1), (2, .int a2)]) dX0_copyNew_1 rfl (by decide) rfl ?_
  refine V_sub (lo2 := [(0, .ref 23), (1, .int a1), (2, .int a2), (3, .int 0)]) [1, 2, 3, 0] rfl ?_
  obtain ⟨f9, h⟩ := h
  refine swX0_copyNew_2 hS f9 _ _ h
def wX0_clearGone_2 (post : QI → Prop) : Nat → Int32 → QI → Prop
  | 0, _, _ => False
  | n + 1, x1, I => ((200 ≤ x1 → post I) ∧ (¬ 200 ≤ x1 → (vp_in x1 200 ∧ (∀ I1 : QI, I1 = q_u2 I 29 (x1).toNatClampNeg 0 → (∀ v2 : Int32, v2 = (x1 + 1) → (wX0_clearGone_2 post n v2 I1))))))
set_option maxRecDepth 100000 in
set_option maxHeartbeats 4000000 in
theorem swX0_clearGone_2 {X : QX} {S : QS} {J : QJ} {post : QI → Prop} (hS : Sh S) : ∀ (f : Nat) (x1 : Int32) (I : QI), wX0_clearGone_2 post f x1 I → V X mX0_clearGone 0 0 0 (q_Pv S (fun I2 J2 => J = J2 ∧ post I2)) 2 [(0, .ref 23), (1, .int x1)] [] S I J 0 0 := by
  intro f
  induction f with
  | zero => intro x1 I h; exact h.elim
  | succ n ih =>
    intro x1 I h
    replace h : ((200 ≤ x1 → post I) ∧ (¬ 200 ≤ x1 → (vp_in x1 200 ∧ (∀ I1 : QI, I1 = q_u2 I 29 (x1).toNatClampNeg 0 → (∀ v2 : Int32, v2 = (x1 + 1) → (wX0_clearGone_2 post n v2 I1)))))) := h
    refine V_iload_n dX0_clearGone_2 rfl rfl ?_
    refine V_sipush (v := 200) dX0_clearGone_3 (by decide) ?_
    refine V_icmp_ge 22 dX0_clearGone_6 rfl (fun hc => ?_) (fun hc => ?_)
    · replace h := h.1 hc
      exact V_vret dX0_clearGone_22 rfl (by decide) (by decide) ⟨rfl, rfl, rfl, h⟩
    · replace h := h.2 hc
      refine V_aload_n dX0_clearGone_9 rfl rfl ?_
      refine V_getr dX0_clearGone_10 fl_RX0_36 (hS.n 23 rfl) (hS.k 23 0 rfl) rfl (hS.r 23 7 29 rfl) ?_
      refine V_iload_n dX0_clearGone_13 rfl rfl ?_
      refine V_iconst (v := 0) dX0_clearGone_14 (by decide) ?_
      obtain ⟨hb, h⟩ := h
      refine V_zast dX0_clearGone_15 (hS.n 29 rfl) (hS.k 29 11 rfl) (by rw [(hS.z 29 200 rfl)]; exact hb) (q_vz (by decide)) ?_
      refine V_memI (fun I1 e_I1 => ?_)
      replace h := h I1 e_I1
      obtain ⟨v2, e_v2⟩ : ∃ z : Int32, z = (x1 + 1) := ⟨_, rfl⟩
      replace h := h v2 e_v2
      refine V_iinc (lo2 := [(1, .int v2), (0, .ref 23)]) 1 dX0_clearGone_16 rfl (v := v2) (by rw [e_v2]; first | done | rfl) (by decide) rfl ?_
      refine V_goto 2 dX0_clearGone_19 rfl ?_
      refine V_sub (lo2 := [(0, .ref 23), (1, .int v2)]) [1, 0] rfl ?_
      exact ih _ _ h
def wX0_clearGone (I : QI) (post : QI → Prop) : Prop := (∃ f : Nat, wX0_clearGone_2 post f 0 I)
set_option maxRecDepth 100000 in
set_option maxHeartbeats 4000000 in
theorem s_mX0_clearGone {X : QX} {S : QS} {I : QI} {J : QJ} {post : QI → Prop} (hS : Sh S) (h : wX0_clearGone I post) : CX X mX0_clearGone 0 0 0 [.ref 23] S I J (q_Pv S (fun I2 J2 => J = J2 ∧ post I2)) := by
  refine CX.of (lo := [(0, .ref 23)]) ok_mX0_clearGone rfl (Nat.le_of_ble_eq_true rfl) rfl ?_
  replace h : (∃ f : Nat, wX0_clearGone_2 post f 0 I) := h
  refine V_iconst (v := 0) dX0_clearGone_0 (by decide) ?_
  refine V_istore_n (lo2 := [(1, .int 0), (0, .ref 23)]) dX0_clearGone_1 rfl (by decide) rfl ?_
  refine V_sub (lo2 := [(0, .ref 23), (1, .int 0)]) [1, 0] rfl ?_
  obtain ⟨f9, h⟩ := h
  refine swX0_clearGone_2 hS f9 _ _ h
def wX0_takeAway_10 (a1 : Int32) (a2 : Int32) (a3 : Int32) (K47 : Int32 → QI → Prop) (post : Int32 → QI → Prop) : Nat → Int32 → Int32 → QI → Prop
  | 0, _, _, _ => False
  | n + 1, x4, x5, I => ((x4 ≤ x5 → post 0 I) ∧ (¬ x4 ≤ x5 → ((200 ≤ x5 → post 0 I) ∧ (¬ 200 ≤ x5 → (vp_in x5 200 ∧ ((¬ (I 29 (x5).toNatClampNeg) = 0 → (∀ v2 : Int32, v2 = (x5 + 1) → (wX0_takeAway_10 a1 a2 a3 K47 post n x4 v2 I))) ∧ ((I 29 (x5).toNatClampNeg) = 0 → (wX0_areAlike a1 x5 a2 a3 I (fun r3 => ((r3 = 0 → (∀ v4 : Int32, v4 = (x5 + 1) → (wX0_takeAway_10 a1 a2 a3 K47 post n x4 v4 I))) ∧ (¬ r3 = 0 → (K47 x5 I))))))))))))
set_option maxRecDepth 100000 in
set_option maxHeartbeats 4000000 in
theorem swX0_takeAway_10 {X : QX} {S : QS} {a1 : Int32} {a2 : Int32} {a3 : Int32} {J : QJ} {K47 : Int32 → QI → Prop} {post : Int32 → QI → Prop} (hS : Sh S) (hK47 : ∀ (z5 : Int32) (I : QI), K47 z5 I → V X mX0_takeAway 2 0 0 (q_Pi S (fun r I2 J2 => J = J2 ∧ post r I2)) 47 [(0, .ref 23), (5, .int z5)] [] S I J 0 0) : ∀ (f : Nat) (x4 : Int32) (x5 : Int32) (I : QI), wX0_takeAway_10 a1 a2 a3 K47 post f x4 x5 I → V X mX0_takeAway 2 0 0 (q_Pi S (fun r I2 J2 => J = J2 ∧ post r I2)) 10 [(0, .ref 23), (1, .int a1), (2, .int a2), (3, .int a3), (4, .int x4), (5, .int x5)] [] S I J 0 0 := by
  intro f
  induction f with
  | zero => intro x4 x5 I h; exact h.elim
  | succ n ih =>
    intro x4 x5 I h
    replace h : ((x4 ≤ x5 → post 0 I) ∧ (¬ x4 ≤ x5 → ((200 ≤ x5 → post 0 I) ∧ (¬ 200 ≤ x5 → (vp_in x5 200 ∧ ((¬ (I 29 (x5).toNatClampNeg) = 0 → (∀ v2 : Int32, v2 = (x5 + 1) → (wX0_takeAway_10 a1 a2 a3 K47 post n x4 v2 I))) ∧ ((I 29 (x5).toNatClampNeg) = 0 → (wX0_areAlike a1 x5 a2 a3 I (fun r3 => ((r3 = 0 → (∀ v4 : Int32, v4 = (x5 + 1) → (wX0_takeAway_10 a1 a2 a3 K47 post n x4 v4 I))) ∧ (¬ r3 = 0 → (K47 x5 I)))))))))))) := h
    refine V_iload dX0_takeAway_10 rfl ?_
    refine V_iload dX0_takeAway_12 rfl ?_
    refine V_icmp_ge 63 dX0_takeAway_14 rfl (fun hc => ?_) (fun hc => ?_)
    · replace h := h.1 hc
      refine V_iconst (v := 0) dX0_takeAway_63 (by decide) ?_
      exact V_zret dX0_takeAway_64 rfl (by decide) (by decide) (by decide) ⟨_, rfl, rfl, rfl, h⟩
    · replace h := h.2 hc
      refine V_iload dX0_takeAway_17 rfl ?_
      refine V_sipush (v := 200) dX0_takeAway_19 (by decide) ?_
      refine V_icmp_ge 63 dX0_takeAway_22 rfl (fun hc => ?_) (fun hc => ?_)
      · replace h := h.1 hc
        refine V_iconst (v := 0) dX0_takeAway_63 (by decide) ?_
        exact V_zret dX0_takeAway_64 rfl (by decide) (by decide) (by decide) ⟨_, rfl, rfl, rfl, h⟩
      · replace h := h.2 hc
        refine V_aload_n dX0_takeAway_25 rfl rfl ?_
        refine V_getr dX0_takeAway_26 fl_RX0_36 (hS.n 23 rfl) (hS.k 23 0 rfl) rfl (hS.r 23 7 29 rfl) ?_
        refine V_iload dX0_takeAway_29 rfl ?_
        obtain ⟨hb, h⟩ := h
        refine V_zald dX0_takeAway_31 (hS.n 29 rfl) (hS.k 29 11 rfl) (by rw [(hS.z 29 200 rfl)]; exact hb) ?_
        refine V_if_ne 57 dX0_takeAway_32 rfl (fun hc => ?_) (fun hc => ?_)
        · replace h := h.1 hc
          obtain ⟨v2, e_v2⟩ : ∃ z : Int32, z = (x5 + 1) := ⟨_, rfl⟩
          replace h := h v2 e_v2
          refine V_iinc (lo2 := [(5, .int v2), (0, .ref 23), (1, .int a1), (2, .int a2), (3, .int a3), (4, .int x4)]) 5 dX0_takeAway_57 rfl (v := v2) (by rw [e_v2]; first | done | rfl) (by decide) rfl ?_
          refine V_goto 10 dX0_takeAway_60 rfl ?_
          refine V_sub (lo2 := [(0, .ref 23), (1, .int a1), (2, .int a2), (3, .int a3), (4, .int x4), (5, .int v2)]) [1, 2, 3, 4, 5, 0] rfl ?_
          exact ih _ _ _ h
        · replace h := h.2 hc
          refine V_aload_n dX0_takeAway_35 rfl rfl ?_
          refine V_iload_n dX0_takeAway_36 rfl rfl ?_
          refine V_iload dX0_takeAway_37 rfl ?_
          refine V_iload_n dX0_takeAway_39 rfl rfl ?_
          refine V_iload_n dX0_takeAway_40 rfl rfl ?_
          refine V_callVi (st := []) [.int a1, .int x5, .int a2, .int a3] dX0_takeAway_41 ok_mX0_areAlike rfl ml_RX0_195 in_mX0_areAlike se_mX0_areAlike (hS.n 23 rfl) (hS.k 23 0 rfl) (by decide) rfl (Nat.le_of_ble_eq_true rfl) (by decide) (by decide) (by decide) (s_mX0_areAlike hS h) (fun r3 I9 J9 h => ?_)
          obtain ⟨rfl, rfl, h⟩ := h
          refine V_if_eq 57 dX0_takeAway_44 rfl (fun hc => ?_) (fun hc => ?_)
          · replace h := h.1 hc
            obtain ⟨v4, e_v4⟩ : ∃ z : Int32, z = (x5 + 1) := ⟨_, rfl⟩
            replace h := h v4 e_v4
            refine V_iinc (lo2 := [(5, .int v4), (0, .ref 23), (1, .int a1), (2, .int a2), (3, .int a3), (4, .int x4)]) 5 dX0_takeAway_57 rfl (v := v4) (by rw [e_v4]; first | done | rfl) (by decide) rfl ?_
            refine V_goto 10 dX0_takeAway_60 rfl ?_
            refine V_sub (lo2 := [(0, .ref 23), (1, .int a1), (2, .int a2), (3, .int a3), (4, .int x4), (5, .int v4)]) [1, 2, 3, 4, 5, 0] rfl ?_
            exact ih _ _ _ h
          · replace h := h.2 hc
            refine V_sub (lo2 := [(0, .ref 23), (5, .int x5)]) [0, 5] rfl ?_
            exact hK47 _ _ h
def wX0_takeAway (a1 : Int32) (a2 : Int32) (a3 : Int32) (I : QI) (post : Int32 → QI → Prop) : Prop := (wX0_countOf a1 I (fun r1 => (∃ f : Nat, wX0_takeAway_10 a1 a2 a3 (fun u5 I6 => (vp_in u5 200 ∧ (∀ I7 : QI, I7 = q_u2 I6 29 (u5).toNatClampNeg 1 → post 1 I7))) post f r1 0 I)))
set_option maxRecDepth 100000 in
set_option maxHeartbeats 4000000 in
theorem s_mX0_takeAway {X : QX} {S : QS} {a1 : Int32} {a2 : Int32} {a3 : Int32} {I : QI} {J : QJ} {post : Int32 → QI → Prop} (hS : Sh S) (h : wX0_takeAway a1 a2 a3 I post) : CX X mX0_takeAway 2 0 0 [.ref 23, .int a1, .int a2, .int a3] S I J (q_Pi S (fun r I2 J2 => J = J2 ∧ post r I2)) := by
  refine CX.of (lo := [(0, .ref 23), (1, .int a1), (2, .int a2), (3, .int a3)]) ok_mX0_takeAway rfl (Nat.le_of_ble_eq_true rfl) rfl ?_
  replace h : (wX0_countOf a1 I (fun r1 => (∃ f : Nat, wX0_takeAway_10 a1 a2 a3 (fun u5 I6 => (vp_in u5 200 ∧ (∀ I7 : QI, I7 = q_u2 I6 29 (u5).toNatClampNeg 1 → post 1 I7))) post f r1 0 I))) := h
  refine V_aload_n dX0_takeAway_0 rfl rfl ?_
  refine V_iload_n dX0_takeAway_1 rfl rfl ?_
  refine V_callVi (st := []) [.int a1] dX0_takeAway_2 ok_mX0_countOf rfl ml_RX0_65 in_mX0_countOf se_mX0_countOf (hS.n 23 rfl) (hS.k 23 0 rfl) (by decide) rfl (Nat.le_of_ble_eq_true rfl) (by decide) (by decide) (by decide) (s_mX0_countOf hS h) (fun r1 I9 J9 h => ?_)
  obtain ⟨rfl, rfl, h⟩ := h
  refine V_istore (lo2 := [(4, .int r1), (0, .ref 23), (1, .int a1), (2, .int a2), (3, .int a3)]) dX0_takeAway_5 (by decide) rfl ?_
  refine V_iconst (v := 0) dX0_takeAway_7 (by decide) ?_
  refine V_istore (lo2 := [(5, .int 0), (4, .int r1), (0, .ref 23), (1, .int a1), (2, .int a2), (3, .int a3)]) dX0_takeAway_8 (by decide) rfl ?_
  refine V_sub (lo2 := [(0, .ref 23), (1, .int a1), (2, .int a2), (3, .int a3), (4, .int r1), (5, .int 0)]) [2, 3, 4, 5, 1, 0] rfl ?_
  obtain ⟨f9, h⟩ := h
  refine swX0_takeAway_10 hS ?_ f9 _ _ _ h
  · intro u5 I6 h
    refine V_aload_n dX0_takeAway_47 rfl rfl ?_
    refine V_getr dX0_takeAway_48 fl_RX0_36 (hS.n 23 rfl) (hS.k 23 0 rfl) rfl (hS.r 23 7 29 rfl) ?_
    refine V_iload dX0_takeAway_51 rfl ?_
    refine V_iconst (v := 1) dX0_takeAway_53 (by decide) ?_
    obtain ⟨hb, h⟩ := h
    refine V_zast dX0_takeAway_54 (hS.n 29 rfl) (hS.k 29 11 rfl) (by rw [(hS.z 29 200 rfl)]; exact hb) (q_vz (by decide)) ?_
    refine V_memI (fun I7 e_I7 => ?_)
    replace h := h I7 e_I7
    refine V_iconst (v := 1) dX0_takeAway_55 (by decide) ?_
    exact V_zret dX0_takeAway_56 rfl (by decide) (by decide) (by decide) ⟨_, rfl, rfl, rfl, h⟩
def wX0_copyTaken_26 (a1 : Int32) (a2 : Int32) (K53 : Int32 → QI → Prop) (post : Int32 → QI → Prop) : Nat → Int32 → Int32 → Int32 → QI → Prop
  | 0, _, _, _, _ => False
  | n + 1, x3, x4, x5, I => (wX0_countOf x4 I (fun r4 => ((r4 ≤ x5 → (K53 x3 I)) ∧ (¬ r4 ≤ x5 → (wX0_takeAway x3 x4 x5 I (fun r6 I5 => (∀ v7 : Int32, v7 = (x5 + 1) → (wX0_copyTaken_26 a1 a2 K53 post n x3 x4 v7 I5))))))))
set_option maxRecDepth 100000 in
set_option maxHeartbeats 4000000 in
theorem swX0_copyTaken_26 {X : QX} {S : QS} {a1 : Int32} {a2 : Int32} {J : QJ} {K53 : Int32 → QI → Prop} {post : Int32 → QI → Prop} (hS : Sh S) (hK53 : ∀ (z3 : Int32) (I : QI), K53 z3 I → V X mX0_copyTaken 3 0 0 (q_Pi S (fun r I2 J2 => J = J2 ∧ post r I2)) 53 [(0, .ref 23), (1, .int a1), (2, .int a2), (3, .int z3)] [] S I J 0 0) : ∀ (f : Nat) (x3 : Int32) (x4 : Int32) (x5 : Int32) (I : QI), wX0_copyTaken_26 a1 a2 K53 post f x3 x4 x5 I → V X mX0_copyTaken 3 0 0 (q_Pi S (fun r I2 J2 => J = J2 ∧ post r I2)) 26 [(0, .ref 23), (1, .int a1), (2, .int a2), (3, .int x3), (4, .int x4), (5, .int x5)] [] S I J 0 0 := by
  intro f
  induction f with
  | zero => intro x3 x4 x5 I h; exact h.elim
  | succ n ih =>
    intro x3 x4 x5 I h
    replace h : (wX0_countOf x4 I (fun r4 => ((r4 ≤ x5 → (K53 x3 I)) ∧ (¬ r4 ≤ x5 → (wX0_takeAway x3 x4 x5 I (fun r6 I5 => (∀ v7 : Int32, v7 = (x5 + 1) → (wX0_copyTaken_26 a1 a2 K53 post n x3 x4 v7 I5)))))))) := h
    refine V_iload dX0_copyTaken_26 rfl ?_
    refine V_aload_n dX0_copyTaken_28 rfl rfl ?_
    refine V_iload dX0_copyTaken_29 rfl ?_
    refine V_callVi (st := [.int x5]) [.int x4] dX0_copyTaken_31 ok_mX0_countOf rfl ml_RX0_65 in_mX0_countOf se_mX0_countOf (hS.n 23 rfl) (hS.k 23 0 rfl) (by decide) rfl (Nat.le_of_ble_eq_true rfl) (by decide) (by decide) (by decide) (s_mX0_countOf hS h) (fun r4 I9 J9 h => ?_)
    obtain ⟨rfl, rfl, h⟩ := h
    refine V_icmp_ge 53 dX0_copyTaken_34 rfl (fun hc => ?_) (fun hc => ?_)
    · replace h := h.1 hc
      refine V_sub (lo2 := [(0, .ref 23), (1, .int a1), (2, .int a2), (3, .int x3)]) [0, 1, 2, 3] rfl ?_
      exact hK53 _ _ h
    · replace h := h.2 hc
      refine V_aload_n dX0_copyTaken_37 rfl rfl ?_
      refine V_iload_n dX0_copyTaken_38 rfl rfl ?_
      refine V_iload dX0_copyTaken_39 rfl ?_
      refine V_iload dX0_copyTaken_41 rfl ?_
      refine V_callVi (st := []) [.int x3, .int x4, .int x5] dX0_copyTaken_43 ok_mX0_takeAway rfl ml_RX0_78 in_mX0_takeAway se_mX0_takeAway (hS.n 23 rfl) (hS.k 23 0 rfl) (by decide) rfl (Nat.le_of_ble_eq_true rfl) (by decide) (by decide) (by decide) (s_mX0_takeAway hS h) (fun r6 I5 J9 h => ?_)
      obtain ⟨rfl, h⟩ := h
      refine V_pop dX0_copyTaken_46 rfl ?_
      obtain ⟨v7, e_v7⟩ : ∃ z : Int32, z = (x5 + 1) := ⟨_, rfl⟩
      replace h := h v7 e_v7
      refine V_iinc (lo2 := [(5, .int v7), (0, .ref 23), (1, .int a1), (2, .int a2), (3, .int x3), (4, .int x4)]) 5 dX0_copyTaken_47 rfl (v := v7) (by rw [e_v7]; first | done | rfl) (by decide) rfl ?_
      refine V_goto 26 dX0_copyTaken_50 rfl ?_
      refine V_sub (lo2 := [(0, .ref 23), (1, .int a1), (2, .int a2), (3, .int x3), (4, .int x4), (5, .int v7)]) [1, 2, 3, 4, 5, 0] rfl ?_
      exact ih _ _ _ _ h
def wX0_copyTaken_56 (a1 : Int32) (a2 : Int32) (post : Int32 → QI → Prop) : Nat → Int32 → Int32 → QI → Prop
  | 0, _, _, _ => False
  | n + 1, x3, x5, I => (wX0_countOf x3 I (fun r10 => ((r10 ≤ x5 → post 1 I) ∧ (¬ r10 ≤ x5 → ((200 ≤ x5 → post 1 I) ∧ (¬ 200 ≤ x5 → (vp_in x5 200 ∧ ((¬ (I 29 (x5).toNatClampNeg) = a2 → (∀ v11 : Int32, v11 = (x5 + 1) → (wX0_copyTaken_56 a1 a2 post n x3 v11 I))) ∧ ((I 29 (x5).toNatClampNeg) = a2 → (wX0_copyRow a1 x3 x5 I (fun r13 I12 => (∀ v14 : Int32, v14 = (x5 + 1) → (wX0_copyTaken_56 a1 a2 post n x3 v14 I12)))))))))))))
set_option maxRecDepth 100000 in
set_option maxHeartbeats 4000000 in
theorem swX0_copyTaken_56 {X : QX} {S : QS} {a1 : Int32} {a2 : Int32} {J : QJ} {post : Int32 → QI → Prop} (hS : Sh S) : ∀ (f : Nat) (x3 : Int32) (x5 : Int32) (I : QI), wX0_copyTaken_56 a1 a2 post f x3 x5 I → V X mX0_copyTaken 3 0 0 (q_Pi S (fun r I2 J2 => J = J2 ∧ post r I2)) 56 [(0, .ref 23), (1, .int a1), (2, .int a2), (3, .int x3), (5, .int x5)] [] S I J 0 0 := by
  intro f
  induction f with
  | zero => intro x3 x5 I h; exact h.elim
  | succ n ih =>
    intro x3 x5 I h
    replace h : (wX0_countOf x3 I (fun r10 => ((r10 ≤ x5 → post 1 I) ∧ (¬ r10 ≤ x5 → ((200 ≤ x5 → post 1 I) ∧ (¬ 200 ≤ x5 → (vp_in x5 200 ∧ ((¬ (I 29 (x5).toNatClampNeg) = a2 → (∀ v11 : Int32, v11 = (x5 + 1) → (wX0_copyTaken_56 a1 a2 post n x3 v11 I))) ∧ ((I 29 (x5).toNatClampNeg) = a2 → (wX0_copyRow a1 x3 x5 I (fun r13 I12 => (∀ v14 : Int32, v14 = (x5 + 1) → (wX0_copyTaken_56 a1 a2 post n x3 v14 I12))))))))))))) := h
    refine V_iload dX0_copyTaken_56 rfl ?_
    refine V_aload_n dX0_copyTaken_58 rfl rfl ?_
    refine V_iload_n dX0_copyTaken_59 rfl rfl ?_
    refine V_callVi (st := [.int x5]) [.int x3] dX0_copyTaken_60 ok_mX0_countOf rfl ml_RX0_65 in_mX0_countOf se_mX0_countOf (hS.n 23 rfl) (hS.k 23 0 rfl) (by decide) rfl (Nat.le_of_ble_eq_true rfl) (by decide) (by decide) (by decide) (s_mX0_countOf hS h) (fun r10 I9 J9 h => ?_)
    obtain ⟨rfl, rfl, h⟩ := h
    refine V_icmp_ge 100 dX0_copyTaken_63 rfl (fun hc => ?_) (fun hc => ?_)
    · replace h := h.1 hc
      refine V_iconst (v := 1) dX0_copyTaken_100 (by decide) ?_
      exact V_zret dX0_copyTaken_101 rfl (by decide) (by decide) (by decide) ⟨_, rfl, rfl, rfl, h⟩
    · replace h := h.2 hc
      refine V_iload dX0_copyTaken_66 rfl ?_
      refine V_sipush (v := 200) dX0_copyTaken_68 (by decide) ?_
      refine V_icmp_ge 100 dX0_copyTaken_71 rfl (fun hc => ?_) (fun hc => ?_)
      · replace h := h.1 hc
        refine V_iconst (v := 1) dX0_copyTaken_100 (by decide) ?_
        exact V_zret dX0_copyTaken_101 rfl (by decide) (by decide) (by decide) ⟨_, rfl, rfl, rfl, h⟩
      · replace h := h.2 hc
        refine V_aload_n dX0_copyTaken_74 rfl rfl ?_
        refine V_getr dX0_copyTaken_75 fl_RX0_36 (hS.n 23 rfl) (hS.k 23 0 rfl) rfl (hS.r 23 7 29 rfl) ?_
        refine V_iload dX0_copyTaken_78 rfl ?_
        obtain ⟨hb, h⟩ := h
        refine V_zald dX0_copyTaken_80 (hS.n 29 rfl) (hS.k 29 11 rfl) (by rw [(hS.z 29 200 rfl)]; exact hb) ?_
        refine V_iload_n dX0_copyTaken_81 rfl rfl ?_
        refine V_icmp_ne 94 dX0_copyTaken_82 rfl (fun hc => ?_) (fun hc => ?_)
        · replace h := h.1 hc
          obtain ⟨v11, e_v11⟩ : ∃ z : Int32, z = (x5 + 1) := ⟨_, rfl⟩
          replace h := h v11 e_v11
          refine V_iinc (lo2 := [(5, .int v11), (0, .ref 23), (1, .int a1), (2, .int a2), (3, .int x3)]) 4 dX0_copyTaken_94 rfl (v := v11) (by rw [e_v11]; first | done | rfl) (by decide) rfl ?_
          refine V_goto 56 dX0_copyTaken_97 rfl ?_
          refine V_sub (lo2 := [(0, .ref 23), (1, .int a1), (2, .int a2), (3, .int x3), (5, .int v11)]) [1, 2, 3, 4, 0] rfl ?_
          exact ih _ _ _ h
        · replace h := h.2 hc
          refine V_aload_n dX0_copyTaken_85 rfl rfl ?_
          refine V_iload_n dX0_copyTaken_86 rfl rfl ?_
          refine V_iload_n dX0_copyTaken_87 rfl rfl ?_
          refine V_iload dX0_copyTaken_88 rfl ?_
          refine V_callVi (st := []) [.int a1, .int x3, .int x5] dX0_copyTaken_90 ok_mX0_copyRow rfl ml_RX0_157 in_mX0_copyRow se_mX0_copyRow (hS.n 23 rfl) (hS.k 23 0 rfl) (by decide) rfl (Nat.le_of_ble_eq_true rfl) (by decide) (by decide) (by decide) (s_mX0_copyRow hS h) (fun r13 I12 J9 h => ?_)
          obtain ⟨rfl, h⟩ := h
          refine V_pop dX0_copyTaken_93 rfl ?_
          obtain ⟨v14, e_v14⟩ : ∃ z : Int32, z = (x5 + 1) := ⟨_, rfl⟩
          replace h := h v14 e_v14
          refine V_iinc (lo2 := [(5, .int v14), (0, .ref 23), (1, .int a1), (2, .int a2), (3, .int x3)]) 4 dX0_copyTaken_94 rfl (v := v14) (by rw [e_v14]; first | done | rfl) (by decide) rfl ?_
          refine V_goto 56 dX0_copyTaken_97 rfl ?_
          refine V_sub (lo2 := [(0, .ref 23), (1, .int a1), (2, .int a2), (3, .int x3), (5, .int v14)]) [1, 2, 3, 4, 0] rfl ?_
          exact ih _ _ _ h
def wX0_copyTaken (a1 : Int32) (a2 : Int32) (I : QI) (post : Int32 → QI → Prop) : Prop := (wX2_firstOf a1 I (fun r1 => (wX2_secondOf a1 I (fun r2 => (wX0_clearGone I (fun I3 => (∃ f : Nat, wX0_copyTaken_26 a1 a2 (fun u8 I9 => (∃ f : Nat, wX0_copyTaken_56 a1 a2 post f u8 0 I9)) post f r1 r2 0 I3)))))))
set_option maxRecDepth 100000 in
set_option maxHeartbeats 4000000 in
theorem s_mX0_copyTaken {X : QX} {S : QS} {a1 : Int32} {a2 : Int32} {I : QI} {J : QJ} {post : Int32 → QI → Prop} (hS : Sh S) (h : wX0_copyTaken a1 a2 I post) : CX X mX0_copyTaken 3 0 0 [.ref 23, .int a1, .int a2] S I J (q_Pi S (fun r I2 J2 => J = J2 ∧ post r I2)) := by
  refine CX.of (lo := [(0, .ref 23), (1, .int a1), (2, .int a2)]) ok_mX0_copyTaken rfl (Nat.le_of_ble_eq_true rfl) rfl ?_
  replace h : (wX2_firstOf a1 I (fun r1 => (wX2_secondOf a1 I (fun r2 => (wX0_clearGone I (fun I3 => (∃ f : Nat, wX0_copyTaken_26 a1 a2 (fun u8 I9 => (∃ f : Nat, wX0_copyTaken_56 a1 a2 post f u8 0 I9)) post f r1 r2 0 I3))))))) := h
  refine V_aload_n dX0_copyTaken_0 rfl rfl ?_
  refine V_getr dX0_copyTaken_1 fl_RX0_15 (hS.n 23 rfl) (hS.k 23 0 rfl) rfl (hS.r 23 1 15 rfl) ?_
  refine V_iload_n dX0_copyTaken_4 rfl rfl ?_
  refine V_callVi (st := []) [.int a1] dX0_copyTaken_5 ok_mX2_firstOf rfl ml_RX0_85 in_mX2_firstOf se_mX2_firstOf (hS.n 15 rfl) (hS.k 15 2 rfl) (by decide) rfl (Nat.le_of_ble_eq_true rfl) (by decide) (by decide) (by decide) (s_mX2_firstOf hS h) (fun r1 I9 J9 h => ?_)
  obtain ⟨rfl, rfl, h⟩ := h
  refine V_istore_n (lo2 := [(3, .int r1), (0, .ref 23), (1, .int a1), (2, .int a2)]) dX0_copyTaken_8 rfl (by decide) rfl ?_
  refine V_aload_n dX0_copyTaken_9 rfl rfl ?_
  refine V_getr dX0_copyTaken_10 fl_RX0_15 (hS.n 23 rfl) (hS.k 23 0 rfl) rfl (hS.r 23 1 15 rfl) ?_
  refine V_iload_n dX0_copyTaken_13 rfl rfl ?_
  refine V_callVi (st := []) [.int a1] dX0_copyTaken_14 ok_mX2_secondOf rfl ml_RX0_91 in_mX2_secondOf se_mX2_secondOf (hS.n 15 rfl) (hS.k 15 2 rfl) (by decide) rfl (Nat.le_of_ble_eq_true rfl) (by decide) (by decide) (by decide) (s_mX2_secondOf hS h) (fun r2 I9 J9 h => ?_)
  obtain ⟨rfl, rfl, h⟩ := h
  refine V_istore (lo2 := [(4, .int r2), (3, .int r1), (0, .ref 23), (1, .int a1), (2, .int a2)]) dX0_copyTaken_17 (by decide) rfl ?_
  refine V_aload_n dX0_copyTaken_19 rfl rfl ?_
  refine V_callVv (st := []) [] dX0_copyTaken_20 ok_mX0_clearGone rfl ml_RX0_75 in_mX0_clearGone se_mX0_clearGone (hS.n 23 rfl) (hS.k 23 0 rfl) (by decide) rfl (Nat.le_of_ble_eq_true rfl) (by decide) (by decide) (by decide) (s_mX0_clearGone hS h) (fun I3 J9 h => ?_)
  obtain ⟨rfl, h⟩ := h
  refine V_iconst (v := 0) dX0_copyTaken_23 (by decide) ?_
  refine V_istore (lo2 := [(5, .int 0), (4, .int r2), (3, .int r1), (0, .ref 23), (1, .int a1), (2, .int a2)]) dX0_copyTaken_24 (by decide) rfl ?_
  refine V_sub (lo2 := [(0, .ref 23), (1, .int a1), (2, .int a2), (3, .int r1), (4, .int r2), (5, .int 0)]) [3, 4, 5, 2, 1, 0] rfl ?_
  obtain ⟨f9, h⟩ := h
  refine swX0_copyTaken_26 hS ?_ f9 _ _ _ _ h
  · intro u8 I9 h
    refine V_iconst (v := 0) dX0_copyTaken_53 (by decide) ?_
    refine V_istore (lo2 := [(5, .int 0), (0, .ref 23), (1, .int a1), (2, .int a2), (3, .int u8)]) dX0_copyTaken_54 (by decide) rfl ?_
    refine V_sub (lo2 := [(0, .ref 23), (1, .int a1), (2, .int a2), (3, .int u8), (5, .int 0)]) [1, 2, 3, 4, 0] rfl ?_
    obtain ⟨f9, h⟩ := h
    refine swX0_copyTaken_56 hS f9 _ _ _ h
def wX0_fillBag (a1 : Int32) (I : QI) (post : Int32 → QI → Prop) : Prop := (wX2_firstOf a1 I (fun r1 => (wX2_secondOf a1 I (fun r2 => (wX2_kindOf a1 I (fun r3 => ((r3 = 0 → (wX0_copyAll a1 r1 I (fun r5 I4 => ((r5 = 0 → post 0 I4) ∧ (¬ r5 = 0 → (wX0_copyAll a1 r2 I4 (fun r7 I6 => ((r7 = 0 → post 0 I6) ∧ (¬ r7 = 0 → post 1 I6))))))))) ∧ (r3 = 3 → (wX0_copyNew a1 r1 I (fun r9 I8 => ((r9 = 0 → post 0 I8) ∧ (¬ r9 = 0 → (wX0_copyNew a1 r2 I8 (fun r11 I10 => ((r11 = 0 → post 0 I10) ∧ (¬ r11 = 0 → post 1 I10))))))))) ∧ (¬ r3 = 0 → ¬ r3 = 3 → (wX2_kindOf a1 I (fun r12 => ((¬ r12 = 2 → (wX0_copyTaken a1 0 I (fun r14 I13 => ((r14 = 0 ∨ r14 = 1) ∧ post r14 I13)))) ∧ (r12 = 2 → (wX0_copyTaken a1 1 I (fun r16 I15 => ((r16 = 0 ∨ r16 = 1) ∧ post r16 I15)))))))))))))))
set_option maxRecDepth 100000 in
set_option maxHeartbeats 4000000 in
theorem s_mX0_fillBag {X : QX} {S : QS} {a1 : Int32} {I : QI} {J : QJ} {post : Int32 → QI → Prop} (hS : Sh S) (h : wX0_fillBag a1 I post) : CX X mX0_fillBag 4 0 0 [.ref 23, .int a1] S I J (q_Pi S (fun r I2 J2 => J = J2 ∧ post r I2)) := by
  refine CX.of (lo := [(0, .ref 23), (1, .int a1)]) ok_mX0_fillBag rfl (Nat.le_of_ble_eq_true rfl) rfl ?_
  replace h : (wX2_firstOf a1 I (fun r1 => (wX2_secondOf a1 I (fun r2 => (wX2_kindOf a1 I (fun r3 => ((r3 = 0 → (wX0_copyAll a1 r1 I (fun r5 I4 => ((r5 = 0 → post 0 I4) ∧ (¬ r5 = 0 → (wX0_copyAll a1 r2 I4 (fun r7 I6 => ((r7 = 0 → post 0 I6) ∧ (¬ r7 = 0 → post 1 I6))))))))) ∧ (r3 = 3 → (wX0_copyNew a1 r1 I (fun r9 I8 => ((r9 = 0 → post 0 I8) ∧ (¬ r9 = 0 → (wX0_copyNew a1 r2 I8 (fun r11 I10 => ((r11 = 0 → post 0 I10) ∧ (¬ r11 = 0 → post 1 I10))))))))) ∧ (¬ r3 = 0 → ¬ r3 = 3 → (wX2_kindOf a1 I (fun r12 => ((¬ r12 = 2 → (wX0_copyTaken a1 0 I (fun r14 I13 => ((r14 = 0 ∨ r14 = 1) ∧ post r14 I13)))) ∧ (r12 = 2 → (wX0_copyTaken a1 1 I (fun r16 I15 => ((r16 = 0 ∨ r16 = 1) ∧ post r16 I15))))))))))))))) := h
  refine V_aload_n dX0_fillBag_0 rfl rfl ?_
  refine V_getr dX0_fillBag_1 fl_RX0_15 (hS.n 23 rfl) (hS.k 23 0 rfl) rfl (hS.r 23 1 15 rfl) ?_
  refine V_iload_n dX0_fillBag_4 rfl rfl ?_
  refine V_callVi (st := []) [.int a1] dX0_fillBag_5 ok_mX2_firstOf rfl ml_RX0_85 in_mX2_firstOf se_mX2_firstOf (hS.n 15 rfl) (hS.k 15 2 rfl) (by decide) rfl (Nat.le_of_ble_eq_true rfl) (by decide) (by decide) (by decide) (s_mX2_firstOf hS h) (fun r1 I9 J9 h => ?_)
  obtain ⟨rfl, rfl, h⟩ := h
  refine V_istore_n (lo2 := [(2, .int r1), (0, .ref 23), (1, .int a1)]) dX0_fillBag_8 rfl (by decide) rfl ?_
  refine V_aload_n dX0_fillBag_9 rfl rfl ?_
  refine V_getr dX0_fillBag_10 fl_RX0_15 (hS.n 23 rfl) (hS.k 23 0 rfl) rfl (hS.r 23 1 15 rfl) ?_
  refine V_iload_n dX0_fillBag_13 rfl rfl ?_
  refine V_callVi (st := []) [.int a1] dX0_fillBag_14 ok_mX2_secondOf rfl ml_RX0_91 in_mX2_secondOf se_mX2_secondOf (hS.n 15 rfl) (hS.k 15 2 rfl) (by decide) rfl (Nat.le_of_ble_eq_true rfl) (by decide) (by decide) (by decide) (s_mX2_secondOf hS h) (fun r2 I9 J9 h => ?_)
  obtain ⟨rfl, rfl, h⟩ := h
  refine V_istore_n (lo2 := [(3, .int r2), (2, .int r1), (0, .ref 23), (1, .int a1)]) dX0_fillBag_17 rfl (by decide) rfl ?_
  refine V_aload_n dX0_fillBag_18 rfl rfl ?_
  refine V_getr dX0_fillBag_19 fl_RX0_15 (hS.n 23 rfl) (hS.k 23 0 rfl) rfl (hS.r 23 1 15 rfl) ?_
  refine V_iload_n dX0_fillBag_22 rfl rfl ?_
  refine V_callVi (st := []) [.int a1] dX0_fillBag_23 ok_mX2_kindOf rfl ml_RX0_107 in_mX2_kindOf se_mX2_kindOf (hS.n 15 rfl) (hS.k 15 2 rfl) (by decide) rfl (Nat.le_of_ble_eq_true rfl) (by decide) (by decide) (by decide) (s_mX2_kindOf hS h) (fun r3 I9 J9 h => ?_)
  obtain ⟨rfl, rfl, h⟩ := h
  by_cases hc0 : r3 = 0
  · replace h := h.1 hc0
    refine V_lookup 52 dX0_fillBag_26 (by decide) (by rw [hc0]; first | done | rfl) rfl ?_
    refine V_aload_n dX0_fillBag_52 rfl rfl ?_
    refine V_iload_n dX0_fillBag_53 rfl rfl ?_
    refine V_iload_n dX0_fillBag_54 rfl rfl ?_
    refine V_callVi (st := []) [.int a1, .int r1] dX0_fillBag_55 ok_mX0_copyAll rfl ml_RX0_182 in_mX0_copyAll se_mX0_copyAll (hS.n 23 rfl) (hS.k 23 0 rfl) (by decide) rfl (Nat.le_of_ble_eq_true rfl) (by decide) (by decide) (by decide) (s_mX0_copyAll hS h) (fun r5 I4 J9 h => ?_)
    obtain ⟨rfl, h⟩ := h
    refine V_if_eq 74 dX0_fillBag_58 rfl (fun hc => ?_) (fun hc => ?_)
    · replace h := h.1 hc
      refine V_iconst (v := 0) dX0_fillBag_74 (by decide) ?_
      exact V_zret dX0_fillBag_75 rfl (by decide) (by decide) (by decide) ⟨_, rfl, rfl, rfl, h⟩
    · replace h := h.2 hc
      refine V_aload_n dX0_fillBag_61 rfl rfl ?_
      refine V_iload_n dX0_fillBag_62 rfl rfl ?_
      refine V_iload_n dX0_fillBag_63 rfl rfl ?_
      refine V_callVi (st := []) [.int a1, .int r2] dX0_fillBag_64 ok_mX0_copyAll rfl ml_RX0_182 in_mX0_copyAll se_mX0_copyAll (hS.n 23 rfl) (hS.k 23 0 rfl) (by decide) rfl (Nat.le_of_ble_eq_true rfl) (by decide) (by decide) (by decide) (s_mX0_copyAll hS h) (fun r7 I6 J9 h => ?_)
      obtain ⟨rfl, h⟩ := h
      refine V_if_eq 74 dX0_fillBag_67 rfl (fun hc => ?_) (fun hc => ?_)
      · replace h := h.1 hc
        refine V_iconst (v := 0) dX0_fillBag_74 (by decide) ?_
        exact V_zret dX0_fillBag_75 rfl (by decide) (by decide) (by decide) ⟨_, rfl, rfl, rfl, h⟩
      · replace h := h.2 hc
        refine V_iconst (v := 1) dX0_fillBag_70 (by decide) ?_
        refine V_goto 75 dX0_fillBag_71 rfl ?_
        exact V_zret dX0_fillBag_75 rfl (by decide) (by decide) (by decide) ⟨_, rfl, rfl, rfl, h⟩
  by_cases hc1 : r3 = 3
  · replace h := h.2.1 hc1
    refine V_lookup 76 dX0_fillBag_26 (by decide) (by rw [hc1]; first | done | rfl) rfl ?_
    refine V_aload_n dX0_fillBag_76 rfl rfl ?_
    refine V_iload_n dX0_fillBag_77 rfl rfl ?_
    refine V_iload_n dX0_fillBag_78 rfl rfl ?_
    refine V_callVi (st := []) [.int a1, .int r1] dX0_fillBag_79 ok_mX0_copyNew rfl ml_RX0_185 in_mX0_copyNew se_mX0_copyNew (hS.n 23 rfl) (hS.k 23 0 rfl) (by decide) rfl (Nat.le_of_ble_eq_true rfl) (by decide) (by decide) (by decide) (s_mX0_copyNew hS h) (fun r9 I8 J9 h => ?_)
    obtain ⟨rfl, h⟩ := h
    refine V_if_eq 98 dX0_fillBag_82 rfl (fun hc => ?_) (fun hc => ?_)
    · replace h := h.1 hc
      refine V_iconst (v := 0) dX0_fillBag_98 (by decide) ?_
      exact V_zret dX0_fillBag_99 rfl (by decide) (by decide) (by decide) ⟨_, rfl, rfl, rfl, h⟩
    · replace h := h.2 hc
      refine V_aload_n dX0_fillBag_85 rfl rfl ?_
      refine V_iload_n dX0_fillBag_86 rfl rfl ?_
      refine V_iload_n dX0_fillBag_87 rfl rfl ?_
      refine V_callVi (st := []) [.int a1, .int r2] dX0_fillBag_88 ok_mX0_copyNew rfl ml_RX0_185 in_mX0_copyNew se_mX0_copyNew (hS.n 23 rfl) (hS.k 23 0 rfl) (by decide) rfl (Nat.le_of_ble_eq_true rfl) (by decide) (by decide) (by decide) (s_mX0_copyNew hS h) (fun r11 I10 J9 h => ?_)
      obtain ⟨rfl, h⟩ := h
      refine V_if_eq 98 dX0_fillBag_91 rfl (fun hc => ?_) (fun hc => ?_)
      · replace h := h.1 hc
        refine V_iconst (v := 0) dX0_fillBag_98 (by decide) ?_
        exact V_zret dX0_fillBag_99 rfl (by decide) (by decide) (by decide) ⟨_, rfl, rfl, rfl, h⟩
      · replace h := h.2 hc
        refine V_iconst (v := 1) dX0_fillBag_94 (by decide) ?_
        refine V_goto 99 dX0_fillBag_95 rfl ?_
        exact V_zret dX0_fillBag_99 rfl (by decide) (by decide) (by decide) ⟨_, rfl, rfl, rfl, h⟩
  replace h := h.2.2 hc0 hc1
  have n0 := q_tsw (c := 0) hc0 (by decide) (by decide)
  have n1 := q_tsw (c := 3) hc1 (by decide) (by decide)
  refine V_lookup 100 dX0_fillBag_26 (by decide) (off := 74) (by simp [Op.lookupswitch.offset, n0, Ne.symm n0, n1, Ne.symm n1]) rfl ?_
  refine V_aload_n dX0_fillBag_100 rfl rfl ?_
  refine V_iload_n dX0_fillBag_101 rfl rfl ?_
  refine V_aload_n dX0_fillBag_102 rfl rfl ?_
  refine V_getr dX0_fillBag_103 fl_RX0_15 (hS.n 23 rfl) (hS.k 23 0 rfl) rfl (hS.r 23 1 15 rfl) ?_
  refine V_iload_n dX0_fillBag_106 rfl rfl ?_
  refine V_callVi (st := [.int a1, .ref 23]) [.int a1] dX0_fillBag_107 ok_mX2_kindOf rfl ml_RX0_107 in_mX2_kindOf se_mX2_kindOf (hS.n 15 rfl) (hS.k 15 2 rfl) (by decide) rfl (Nat.le_of_ble_eq_true rfl) (by decide) (by decide) (by decide) (s_mX2_kindOf hS h) (fun r12 I9 J9 h => ?_)
  obtain ⟨rfl, rfl, h⟩ := h
  refine V_iconst (v := 2) dX0_fillBag_110 (by decide) ?_
  refine V_icmp_ne 118 dX0_fillBag_111 rfl (fun hc => ?_) (fun hc => ?_)
  · replace h := h.1 hc
    refine V_iconst (v := 0) dX0_fillBag_118 (by decide) ?_
    refine V_callVi (st := []) [.int a1, .int 0] dX0_fillBag_119 ok_mX0_copyTaken rfl ml_RX0_188 in_mX0_copyTaken se_mX0_copyTaken (hS.n 23 rfl) (hS.k 23 0 rfl) (by decide) rfl (Nat.le_of_ble_eq_true rfl) (by decide) (by decide) (by decide) (s_mX0_copyTaken hS h) (fun r14 I13 J9 h => ?_)
    obtain ⟨rfl, h⟩ := h
    obtain ⟨hz, h⟩ := h
    exact V_zret dX0_fillBag_122 rfl (q_nz hz) (by decide) (by decide) ⟨_, rfl, rfl, rfl, h⟩
  · replace h := h.2 hc
    refine V_iconst (v := 1) dX0_fillBag_114 (by decide) ?_
    refine V_goto 119 dX0_fillBag_115 rfl ?_
    refine V_callVi (st := []) [.int a1, .int 1] dX0_fillBag_119 ok_mX0_copyTaken rfl ml_RX0_188 in_mX0_copyTaken se_mX0_copyTaken (hS.n 23 rfl) (hS.k 23 0 rfl) (by decide) rfl (Nat.le_of_ble_eq_true rfl) (by decide) (by decide) (by decide) (s_mX0_copyTaken hS h) (fun r16 I15 J9 h => ?_)
    obtain ⟨rfl, h⟩ := h
    obtain ⟨hz, h⟩ := h
    exact V_zret dX0_fillBag_122 rfl (q_nz hz) (by decide) (by decide) ⟨_, rfl, rfl, rfl, h⟩
def wX0_fillFilter_11 (a1 : Int32) (post : Int32 → QI → Prop) : Nat → Int32 → Int32 → QI → Prop
  | 0, _, _, _ => False
  | n + 1, x2, x3, I => (wX0_countOf x2 I (fun r2 => ((r2 ≤ x3 → post 1 I) ∧ (¬ r2 ≤ x3 → (wX2_columnOf a1 I (fun r3 => (wX0_valueAt x2 x3 r3 I (fun r4 => (wX2_kindOf a1 I (fun r5 => (wX2_extraOf a1 I (fun r6 => (wX7_isTrue r5 r4 r6 I (fun r7 => ((r7 = 0 → (∀ v8 : Int32, v8 = (x3 + 1) → (wX0_fillFilter_11 a1 post n x2 v8 I))) ∧ (¬ r7 = 0 → (wX0_copyRow a1 x2 x3 I (fun r10 I9 => (∀ v11 : Int32, v11 = (x3 + 1) → (wX0_fillFilter_11 a1 post n x2 v11 I9))))))))))))))))))))
set_option maxRecDepth 100000 in
set_option maxHeartbeats 4000000 in
theorem swX0_fillFilter_11 {X : QX} {S : QS} {a1 : Int32} {J : QJ} {post : Int32 → QI → Prop} (hS : Sh S) : ∀ (f : Nat) (x2 : Int32) (x3 : Int32) (I : QI), wX0_fillFilter_11 a1 post f x2 x3 I → V X mX0_fillFilter 2 0 0 (q_Pi S (fun r I2 J2 => J = J2 ∧ post r I2)) 11 [(0, .ref 23), (1, .int a1), (2, .int x2), (3, .int x3)] [] S I J 0 0 := by
  intro f
  induction f with
  | zero => intro x2 x3 I h; exact h.elim
  | succ n ih =>
    intro x2 x3 I h
    replace h : (wX0_countOf x2 I (fun r2 => ((r2 ≤ x3 → post 1 I) ∧ (¬ r2 ≤ x3 → (wX2_columnOf a1 I (fun r3 => (wX0_valueAt x2 x3 r3 I (fun r4 => (wX2_kindOf a1 I (fun r5 => (wX2_extraOf a1 I (fun r6 => (wX7_isTrue r5 r4 r6 I (fun r7 => ((r7 = 0 → (∀ v8 : Int32, v8 = (x3 + 1) → (wX0_fillFilter_11 a1 post n x2 v8 I))) ∧ (¬ r7 = 0 → (wX0_copyRow a1 x2 x3 I (fun r10 I9 => (∀ v11 : Int32, v11 = (x3 + 1) → (wX0_fillFilter_11 a1 post n x2 v11 I9)))))))))))))))))))) := h
    refine V_iload_n dX0_fillFilter_11 rfl rfl ?_
    refine V_aload_n dX0_fillFilter_12 rfl rfl ?_
    refine V_iload_n dX0_fillFilter_13 rfl rfl ?_
    refine V_callVi (st := [.int x3]) [.int x2] dX0_fillFilter_14 ok_mX0_countOf rfl ml_RX0_65 in_mX0_countOf se_mX0_countOf (hS.n 23 rfl) (hS.k 23 0 rfl) (by decide) rfl (Nat.le_of_ble_eq_true rfl) (by decide) (by decide) (by decide) (s_mX0_countOf hS h) (fun r2 I9 J9 h => ?_)
    obtain ⟨rfl, rfl, h⟩ := h
    refine V_icmp_ge 74 dX0_fillFilter_17 rfl (fun hc => ?_) (fun hc => ?_)
    · replace h := h.1 hc
      refine V_iconst (v := 1) dX0_fillFilter_74 (by decide) ?_
      exact V_zret dX0_fillFilter_75 rfl (by decide) (by decide) (by decide) ⟨_, rfl, rfl, rfl, h⟩
    · replace h := h.2 hc
      refine V_aload_n dX0_fillFilter_20 rfl rfl ?_
      refine V_iload_n dX0_fillFilter_21 rfl rfl ?_
      refine V_iload_n dX0_fillFilter_22 rfl rfl ?_
      refine V_aload_n dX0_fillFilter_23 rfl rfl ?_
      refine V_getr dX0_fillFilter_24 fl_RX0_15 (hS.n 23 rfl) (hS.k 23 0 rfl) rfl (hS.r 23 1 15 rfl) ?_
      refine V_iload_n dX0_fillFilter_27 rfl rfl ?_
      refine V_callVi (st := [.int x3, .int x2, .ref 23]) [.int a1] dX0_fillFilter_28 ok_mX2_columnOf rfl ml_RX0_144 in_mX2_columnOf se_mX2_columnOf (hS.n 15 rfl) (hS.k 15 2 rfl) (by decide) rfl (Nat.le_of_ble_eq_true rfl) (by decide) (by decide) (by decide) (s_mX2_columnOf hS h) (fun r3 I9 J9 h => ?_)
      obtain ⟨rfl, rfl, h⟩ := h
      refine V_callVi (st := []) [.int x2, .int x3, .int r3] dX0_fillFilter_31 ok_mX0_valueAt rfl ml_RX0_147 in_mX0_valueAt se_mX0_valueAt (hS.n 23 rfl) (hS.k 23 0 rfl) (by decide) rfl (Nat.le_of_ble_eq_true rfl) (by decide) (by decide) (by decide) (s_mX0_valueAt hS h) (fun r4 I9 J9 h => ?_)
      obtain ⟨rfl, rfl, h⟩ := h
      refine V_istore (lo2 := [(4, .int r4), (0, .ref 23), (1, .int a1), (2, .int x2), (3, .int x3)]) dX0_fillFilter_34 (by decide) rfl ?_
      refine V_aload_n dX0_fillFilter_36 rfl rfl ?_
      refine V_getr dX0_fillFilter_37 fl_RX0_15 (hS.n 23 rfl) (hS.k 23 0 rfl) rfl (hS.r 23 1 15 rfl) ?_
      refine V_iload_n dX0_fillFilter_40 rfl rfl ?_
      refine V_callVi (st := []) [.int a1] dX0_fillFilter_41 ok_mX2_kindOf rfl ml_RX0_107 in_mX2_kindOf se_mX2_kindOf (hS.n 15 rfl) (hS.k 15 2 rfl) (by decide) rfl (Nat.le_of_ble_eq_true rfl) (by decide) (by decide) (by decide) (s_mX2_kindOf hS h) (fun r5 I9 J9 h => ?_)
      obtain ⟨rfl, rfl, h⟩ := h
      refine V_iload dX0_fillFilter_44 rfl ?_
      refine V_aload_n dX0_fillFilter_46 rfl rfl ?_
      refine V_getr dX0_fillFilter_47 fl_RX0_15 (hS.n 23 rfl) (hS.k 23 0 rfl) rfl (hS.r 23 1 15 rfl) ?_
      refine V_iload_n dX0_fillFilter_50 rfl rfl ?_
      refine V_callVi (st := [.int r4, .int r5]) [.int a1] dX0_fillFilter_51 ok_mX2_extraOf rfl ml_RX0_151 in_mX2_extraOf se_mX2_extraOf (hS.n 15 rfl) (hS.k 15 2 rfl) (by decide) rfl (Nat.le_of_ble_eq_true rfl) (by decide) (by decide) (by decide) (s_mX2_extraOf hS h) (fun r6 I9 J9 h => ?_)
      obtain ⟨rfl, rfl, h⟩ := h
      refine V_callSNi (st := []) (host := "QueryLoft") [.int r5, .int r4, .int r6] dX0_fillFilter_54 ok_mX7_isTrue rfl (by decide) st_mX7_isTrue (Nat.le_of_ble_eq_true rfl) (by decide) (by decide) (by decide) (s_mX7_isTrue hS h) (fun r7 I9 J9 h => ?_)
      obtain ⟨rfl, rfl, h⟩ := h
      refine V_if_eq 68 dX0_fillFilter_57 rfl (fun hc => ?_) (fun hc => ?_)
      · replace h := h.1 hc
        obtain ⟨v8, e_v8⟩ : ∃ z : Int32, z = (x3 + 1) := ⟨_, rfl⟩
        replace h := h v8 e_v8
        refine V_iinc (lo2 := [(3, .int v8), (4, .int r4), (0, .ref 23), (1, .int a1), (2, .int x2)]) 4 dX0_fillFilter_68 rfl (v := v8) (by rw [e_v8]; first | done | rfl) (by decide) rfl ?_
        refine V_goto 11 dX0_fillFilter_71 rfl ?_
        refine V_sub (lo2 := [(0, .ref 23), (1, .int a1), (2, .int x2), (3, .int v8)]) [2, 3, 4, 0] rfl ?_
        exact ih _ _ _ h
      · replace h := h.2 hc
        refine V_aload_n dX0_fillFilter_60 rfl rfl ?_
        refine V_iload_n dX0_fillFilter_61 rfl rfl ?_
        refine V_iload_n dX0_fillFilter_62 rfl rfl ?_
        refine V_iload_n dX0_fillFilter_63 rfl rfl ?_
        refine V_callVi (st := []) [.int a1, .int x2, .int x3] dX0_fillFilter_64 ok_mX0_copyRow rfl ml_RX0_157 in_mX0_copyRow se_mX0_copyRow (hS.n 23 rfl) (hS.k 23 0 rfl) (by decide) rfl (Nat.le_of_ble_eq_true rfl) (by decide) (by decide) (by decide) (s_mX0_copyRow hS h) (fun r10 I9 J9 h => ?_)
        obtain ⟨rfl, h⟩ := h
        refine V_pop dX0_fillFilter_67 rfl ?_
        obtain ⟨v11, e_v11⟩ : ∃ z : Int32, z = (x3 + 1) := ⟨_, rfl⟩
        replace h := h v11 e_v11
        refine V_iinc (lo2 := [(3, .int v11), (4, .int r4), (0, .ref 23), (1, .int a1), (2, .int x2)]) 4 dX0_fillFilter_68 rfl (v := v11) (by rw [e_v11]; first | done | rfl) (by decide) rfl ?_
        refine V_goto 11 dX0_fillFilter_71 rfl ?_
        refine V_sub (lo2 := [(0, .ref 23), (1, .int a1), (2, .int x2), (3, .int v11)]) [2, 3, 4, 0] rfl ?_
        exact ih _ _ _ h
def wX0_fillFilter (a1 : Int32) (I : QI) (post : Int32 → QI → Prop) : Prop := (wX2_firstOf a1 I (fun r1 => (∃ f : Nat, wX0_fillFilter_11 a1 post f r1 0 I)))
set_option maxRecDepth 100000 in
set_option maxHeartbeats 4000000 in
theorem s_mX0_fillFilter {X : QX} {S : QS} {a1 : Int32} {I : QI} {J : QJ} {post : Int32 → QI → Prop} (hS : Sh S) (h : wX0_fillFilter a1 I post) : CX X mX0_fillFilter 2 0 0 [.ref 23, .int a1] S I J (q_Pi S (fun r I2 J2 => J = J2 ∧ post r I2)) := by
  refine CX.of (lo := [(0, .ref 23), (1, .int a1)]) ok_mX0_fillFilter rfl (Nat.le_of_ble_eq_true rfl) rfl ?_
  replace h : (wX2_firstOf a1 I (fun r1 => (∃ f : Nat, wX0_fillFilter_11 a1 post f r1 0 I))) := h
  refine V_aload_n dX0_fillFilter_0 rfl rfl ?_
  refine V_getr dX0_fillFilter_1 fl_RX0_15 (hS.n 23 rfl) (hS.k 23 0 rfl) rfl (hS.r 23 1 15 rfl) ?_
  refine V_iload_n dX0_fillFilter_4 rfl rfl ?_
  refine V_callVi (st := []) [.int a1] dX0_fillFilter_5 ok_mX2_firstOf rfl ml_RX0_85 in_mX2_firstOf se_mX2_firstOf (hS.n 15 rfl) (hS.k 15 2 rfl) (by decide) rfl (Nat.le_of_ble_eq_true rfl) (by decide) (by decide) (by decide) (s_mX2_firstOf hS h) (fun r1 I9 J9 h => ?_)
  obtain ⟨rfl, rfl, h⟩ := h
  refine V_istore_n (lo2 := [(2, .int r1), (0, .ref 23), (1, .int a1)]) dX0_fillFilter_8 rfl (by decide) rfl ?_
  refine V_iconst (v := 0) dX0_fillFilter_9 (by decide) ?_
  refine V_istore_n (lo2 := [(3, .int 0), (2, .int r1), (0, .ref 23), (1, .int a1)]) dX0_fillFilter_10 rfl (by decide) rfl ?_
  refine V_sub (lo2 := [(0, .ref 23), (1, .int a1), (2, .int r1), (3, .int 0)]) [2, 3, 1, 0] rfl ?_
  obtain ⟨f9, h⟩ := h
  refine swX0_fillFilter_11 hS f9 _ _ _ h
def wX0_findRow_19 (a1 : Int32) (a2 : Int32) (a3 : Int32) (I : QI) (post : Int32 → Prop) : Nat → Int32 → Int32 → Int32 → Prop
  | 0, _, _, _ => False
  | n + 1, x4, x5, x6 => ((x4 ≤ x6 → post (-1)) ∧ (¬ x4 ≤ x6 → ((x5 < 0 → post (-1)) ∧ (¬ x5 < 0 → ((28800 ≤ x5 → post (-1)) ∧ (¬ 28800 ≤ x5 → (vp_in x5 28800 ∧ ((¬ (I 24 (x5).toNatClampNeg) = a3 → (∀ v3 : Int32, v3 = (x5 + 6) → (∀ v4 : Int32, v4 = (x6 + 1) → (wX0_findRow_19 a1 a2 a3 I post n x4 v3 v4)))) ∧ ((I 24 (x5).toNatClampNeg) = a3 → post x6)))))))))
set_option maxRecDepth 100000 in
set_option maxHeartbeats 4000000 in
theorem swX0_findRow_19 {X : QX} {S : QS} {a1 : Int32} {a2 : Int32} {a3 : Int32} {I : QI} {J : QJ} {post : Int32 → Prop} (hS : Sh S) : ∀ (f : Nat) (x4 : Int32) (x5 : Int32) (x6 : Int32), wX0_findRow_19 a1 a2 a3 I post f x4 x5 x6 → V X mX0_findRow 1 0 0 (q_Pi S (fun r I2 J2 => I = I2 ∧ J = J2 ∧ post r)) 19 [(0, .ref 23), (3, .int a3), (4, .int x4), (5, .int x5), (6, .int x6)] [] S I J 0 0 := by
  intro f
  induction f with
  | zero => intro x4 x5 x6 h; exact h.elim
  | succ n ih =>
    intro x4 x5 x6 h
    replace h : ((x4 ≤ x6 → post (-1)) ∧ (¬ x4 ≤ x6 → ((x5 < 0 → post (-1)) ∧ (¬ x5 < 0 → ((28800 ≤ x5 → post (-1)) ∧ (¬ 28800 ≤ x5 → (vp_in x5 28800 ∧ ((¬ (I 24 (x5).toNatClampNeg) = a3 → (∀ v3 : Int32, v3 = (x5 + 6) → (∀ v4 : Int32, v4 = (x6 + 1) → (wX0_findRow_19 a1 a2 a3 I post n x4 v3 v4)))) ∧ ((I 24 (x5).toNatClampNeg) = a3 → post x6))))))))) := h
    refine V_iload dX0_findRow_19 rfl ?_
    refine V_iload dX0_findRow_21 rfl ?_
    refine V_icmp_ge 64 dX0_findRow_23 rfl (fun hc => ?_) (fun hc => ?_)
    · replace h := h.1 hc
      refine V_iconst (v := (-1)) dX0_findRow_64 (by decide) ?_
      exact V_iret dX0_findRow_65 rfl (by decide) (by decide) ⟨_, rfl, rfl, rfl, rfl, h⟩
    · replace h := h.2 hc
      refine V_iload dX0_findRow_26 rfl ?_
      refine V_if_lt 64 dX0_findRow_28 rfl (fun hc => ?_) (fun hc => ?_)
      · replace h := h.1 hc
        refine V_iconst (v := (-1)) dX0_findRow_64 (by decide) ?_
        exact V_iret dX0_findRow_65 rfl (by decide) (by decide) ⟨_, rfl, rfl, rfl, rfl, h⟩
      · replace h := h.2 hc
        refine V_iload dX0_findRow_31 rfl ?_
        refine V_aload_n dX0_findRow_33 rfl rfl ?_
        refine V_getr dX0_findRow_34 fl_RX0_19 (hS.n 23 rfl) (hS.k 23 0 rfl) rfl (hS.r 23 2 24 rfl) ?_
        refine V_alenI (v := 28800) dX0_findRow_37 (hS.n 24 rfl) (hS.k 24 9 rfl) (by rw [(hS.z 24 28800 rfl)]; rfl) ?_
        refine V_icmp_ge 64 dX0_findRow_38 rfl (fun hc => ?_) (fun hc => ?_)
        · replace h := h.1 hc
          refine V_iconst (v := (-1)) dX0_findRow_64 (by decide) ?_
          exact V_iret dX0_findRow_65 rfl (by decide) (by decide) ⟨_, rfl, rfl, rfl, rfl, h⟩
        · replace h := h.2 hc
          refine V_aload_n dX0_findRow_41 rfl rfl ?_
          refine V_getr dX0_findRow_42 fl_RX0_19 (hS.n 23 rfl) (hS.k 23 0 rfl) rfl (hS.r 23 2 24 rfl) ?_
          refine V_iload dX0_findRow_45 rfl ?_
          obtain ⟨hb, h⟩ := h
          refine V_iald dX0_findRow_47 (hS.n 24 rfl) (hS.k 24 9 rfl) (by rw [(hS.z 24 28800 rfl)]; exact hb) ?_
          refine V_iload_n dX0_findRow_48 rfl rfl ?_
          refine V_icmp_ne 55 dX0_findRow_49 rfl (fun hc => ?_) (fun hc => ?_)
          · replace h := h.1 hc
            obtain ⟨v3, e_v3⟩ : ∃ z : Int32, z = (x5 + 6) := ⟨_, rfl⟩
            replace h := h v3 e_v3
            refine V_iinc (lo2 := [(5, .int v3), (0, .ref 23), (3, .int a3), (4, .int x4), (6, .int x6)]) 3 dX0_findRow_55 rfl (v := v3) (by rw [e_v3]; first | done | rfl) (by decide) rfl ?_
            obtain ⟨v4, e_v4⟩ : ∃ z : Int32, z = (x6 + 1) := ⟨_, rfl⟩
            replace h := h v4 e_v4
            refine V_iinc (lo2 := [(6, .int v4), (5, .int v3), (0, .ref 23), (3, .int a3), (4, .int x4)]) 4 dX0_findRow_58 rfl (v := v4) (by rw [e_v4]; first | done | rfl) (by decide) rfl ?_
            refine V_goto 19 dX0_findRow_61 rfl ?_
            refine V_sub (lo2 := [(0, .ref 23), (3, .int a3), (4, .int x4), (5, .int v3), (6, .int v4)]) [2, 3, 4, 1, 0] rfl ?_
            exact ih _ _ _ h
          · replace h := h.2 hc
            refine V_iload dX0_findRow_52 rfl ?_
            exact V_iret dX0_findRow_54 rfl (by decide) (by decide) ⟨_, rfl, rfl, rfl, rfl, h⟩
def wX0_findRow (a1 : Int32) (a2 : Int32) (a3 : Int32) (I : QI) (post : Int32 → Prop) : Prop := (wX0_countOf a1 I (fun r1 => (∀ v2 : Int32, v2 = ((a1 * 1200) + a2) → (∃ f : Nat, wX0_findRow_19 a1 a2 a3 I post f r1 v2 0))))
set_option maxRecDepth 100000 in
set_option maxHeartbeats 4000000 in
theorem s_mX0_findRow {X : QX} {S : QS} {a1 : Int32} {a2 : Int32} {a3 : Int32} {I : QI} {J : QJ} {post : Int32 → Prop} (hS : Sh S) (h : wX0_findRow a1 a2 a3 I post) : CX X mX0_findRow 1 0 0 [.ref 23, .int a1, .int a2, .int a3] S I J (q_Pi S (fun r I2 J2 => I = I2 ∧ J = J2 ∧ post r)) := by
  refine CX.of (lo := [(0, .ref 23), (1, .int a1), (2, .int a2), (3, .int a3)]) ok_mX0_findRow rfl (Nat.le_of_ble_eq_true rfl) rfl ?_
  replace h : (wX0_countOf a1 I (fun r1 => (∀ v2 : Int32, v2 = ((a1 * 1200) + a2) → (∃ f : Nat, wX0_findRow_19 a1 a2 a3 I post f r1 v2 0)))) := h
  refine V_aload_n dX0_findRow_0 rfl rfl ?_
  refine V_iload_n dX0_findRow_1 rfl rfl ?_
  refine V_callVi (st := []) [.int a1] dX0_findRow_2 ok_mX0_countOf rfl ml_RX0_65 in_mX0_countOf se_mX0_countOf (hS.n 23 rfl) (hS.k 23 0 rfl) (by decide) rfl (Nat.le_of_ble_eq_true rfl) (by decide) (by decide) (by decide) (s_mX0_countOf hS h) (fun r1 I9 J9 h => ?_)
  obtain ⟨rfl, rfl, h⟩ := h
  refine V_istore (lo2 := [(4, .int r1), (0, .ref 23), (1, .int a1), (2, .int a2), (3, .int a3)]) dX0_findRow_5 (by decide) rfl ?_
  refine V_iload_n dX0_findRow_7 rfl rfl ?_
  refine V_sipush (v := 1200) dX0_findRow_8 (by decide) ?_
  refine V_imul dX0_findRow_11 ?_
  refine V_iload_n dX0_findRow_12 rfl rfl ?_
  refine V_iadd dX0_findRow_13 ?_
  refine V_topi (fun v2 e_v2 => ?_)
  replace h := h v2 e_v2
  refine V_istore (lo2 := [(5, .int v2), (4, .int r1), (0, .ref 23), (1, .int a1), (2, .int a2), (3, .int a3)]) dX0_findRow_14 (by decide) rfl ?_
  refine V_iconst (v := 0) dX0_findRow_16 (by decide) ?_
  refine V_istore (lo2 := [(6, .int 0), (5, .int v2), (4, .int r1), (0, .ref 23), (1, .int a1), (2, .int a2), (3, .int a3)]) dX0_findRow_17 (by decide) rfl ?_
  refine V_sub (lo2 := [(0, .ref 23), (3, .int a3), (4, .int r1), (5, .int v2), (6, .int 0)]) [3, 6, 2, 1, 0] rfl ?_
  obtain ⟨f9, h⟩ := h
  refine swX0_findRow_19 hS f9 _ _ _ h
def wX0_isBetter (a0 : Int32) (a1 : Int32) (a2 : Int32) (I : QI) (post : Int32 → Prop) : Prop := ((¬ a0 = 3 → ((a1 ≤ a2 → post 0) ∧ (¬ a1 ≤ a2 → post 1))) ∧ (a0 = 3 → ((a2 ≤ a1 → post 0) ∧ (¬ a2 ≤ a1 → post 1))))
set_option maxRecDepth 100000 in
set_option maxHeartbeats 4000000 in
theorem s_mX0_isBetter {X : QX} {S : QS} {a0 : Int32} {a1 : Int32} {a2 : Int32} {I : QI} {J : QJ} {post : Int32 → Prop} (hS : Sh S) (h : wX0_isBetter a0 a1 a2 I post) : CX X mX0_isBetter 0 0 0 [.int a0, .int a1, .int a2] S I J (q_Pi S (fun r I2 J2 => I = I2 ∧ J = J2 ∧ post r)) := by
  refine CX.of (lo := [(0, .int a0), (1, .int a1), (2, .int a2)]) ok_mX0_isBetter rfl (Nat.le_of_ble_eq_true rfl) rfl ?_
  replace h : ((¬ a0 = 3 → ((a1 ≤ a2 → post 0) ∧ (¬ a1 ≤ a2 → post 1))) ∧ (a0 = 3 → ((a2 ≤ a1 → post 0) ∧ (¬ a2 ≤ a1 → post 1)))) := h
  refine V_iload_n dX0_isBetter_0 rfl rfl ?_
  refine V_iconst (v := 3) dX0_isBetter_1 (by decide) ?_
  refine V_icmp_ne 18 dX0_isBetter_2 rfl (fun hc => ?_) (fun hc => ?_)
  · replace h := h.1 hc
    refine V_iload_n dX0_isBetter_18 rfl rfl ?_
    refine V_iload_n dX0_isBetter_19 rfl rfl ?_
    refine V_icmp_le 27 dX0_isBetter_20 rfl (fun hc => ?_) (fun hc => ?_)
    · replace h := h.1 hc
      refine V_iconst (v := 0) dX0_isBetter_27 (by decide) ?_
      exact V_zret dX0_isBetter_28 rfl (by decide) (by decide) (by decide) ⟨_, rfl, rfl, rfl, rfl, h⟩
    · replace h := h.2 hc
      refine V_iconst (v := 1) dX0_isBetter_23 (by decide) ?_
      refine V_goto 28 dX0_isBetter_24 rfl ?_
      exact V_zret dX0_isBetter_28 rfl (by decide) (by decide) (by decide) ⟨_, rfl, rfl, rfl, rfl, h⟩
  · replace h := h.2 hc
    refine V_iload_n dX0_isBetter_5 rfl rfl ?_
    refine V_iload_n dX0_isBetter_6 rfl rfl ?_
    refine V_icmp_ge 14 dX0_isBetter_7 rfl (fun hc => ?_) (fun hc => ?_)
    · replace h := h.1 hc
      refine V_iconst (v := 0) dX0_isBetter_14 (by decide) ?_
      refine V_goto 28 dX0_isBetter_15 rfl ?_
      exact V_zret dX0_isBetter_28 rfl (by decide) (by decide) (by decide) ⟨_, rfl, rfl, rfl, rfl, h⟩
    · replace h := h.2 hc
      refine V_iconst (v := 1) dX0_isBetter_10 (by decide) ?_
      refine V_goto 28 dX0_isBetter_11 rfl ?_
      exact V_zret dX0_isBetter_28 rfl (by decide) (by decide) (by decide) ⟨_, rfl, rfl, rfl, rfl, h⟩
def wX0_summary_63 (a1 : Int32) (a2 : Int32) (I : QI) (K153 : Int32 → Int32 → Int32 → Int32 → Int32 → Prop) (post : Int32 → Prop) : Nat → Int32 → Int32 → Int32 → Int32 → Int32 → Int32 → Int32 → Int32 → Int32 → Int32 → Prop
  | 0, _, _, _, _, _, _, _, _, _, _ => False
  | n + 1, x3, x4, x5, x6, x7, x8, x9, x10, x11, x12 => ((x7 ≤ x12 → (K153 x4 x8 x9 x10 x11)) ∧ (¬ x7 ≤ x12 → (wX0_valueAt x3 x12 x5 I (fun r6 => ((r6 = a2 → (∀ v7 : Int32, v7 = (x10 + 1) → (wX0_valueAt x3 x12 x6 I (fun r8 => ((¬ r8 = (-1000) → ((x8 = 0 → (∀ v9 : Int32, v9 = (x8 + 1) → (∀ v10 : Int32, v10 = (x9 + r8) → (∀ v11 : Int32, v11 = (x12 + 1) → (wX0_summary_63 a1 a2 I K153 post n x3 x4 x5 x6 x7 v9 v10 v7 r8 v11))))) ∧ (¬ x8 = 0 → (wX0_isBetter x4 r8 x11 I (fun r12 => ((r12 = 0 → (∀ v13 : Int32, v13 = (x8 + 1) → (∀ v14 : Int32, v14 = (x9 + r8) → (∀ v15 : Int32, v15 = (x12 + 1) → (wX0_summary_63 a1 a2 I K153 post n x3 x4 x5 x6 x7 v13 v14 v7 x11 v15))))) ∧ (¬ r12 = 0 → (∀ v16 : Int32, v16 = (x8 + 1) → (∀ v17 : Int32, v17 = (x9 + r8) → (∀ v18 : Int32, v18 = (x12 + 1) → (wX0_summary_63 a1 a2 I K153 post n x3 x4 x5 x6 x7 v16 v17 v7 r8 v18))))))))))) ∧ (r8 = (-1000) → (∀ v19 : Int32, v19 = (x12 + 1) → (wX0_summary_63 a1 a2 I K153 post n x3 x4 x5 x6 x7 x8 x9 v7 x11 v19)))))))) ∧ (¬ r6 = a2 → (∀ v20 : Int32, v20 = (x12 + 1) → (wX0_summary_63 a1 a2 I K153 post n x3 x4 x5 x6 x7 x8 x9 x10 x11 v20))))))))
set_option maxRecDepth 100000 in
set_option maxHeartbeats 4000000 in
theorem swX0_summary_63 {X : QX} {S : QS} {a1 : Int32} {a2 : Int32} {I : QI} {J : QJ} {K153 : Int32 → Int32 → Int32 → Int32 → Int32 → Prop} {post : Int32 → Prop} (hS : Sh S) (hK153 : ∀ (z4 : Int32) (z8 : Int32) (z9 : Int32) (z10 : Int32) (z11 : Int32), K153 z4 z8 z9 z10 z11 → V X mX0_summary 1 0 0 (q_Pi S (fun r I2 J2 => I = I2 ∧ J = J2 ∧ post r)) 153 [(4, .int z4), (8, .int z8), (9, .int z9), (10, .int z10), (11, .int z11)] [] S I J 0 0) : ∀ (f : Nat) (x3 : Int32) (x4 : Int32) (x5 : Int32) (x6 : Int32) (x7 : Int32) (x8 : Int32) (x9 : Int32) (x10 : Int32) (x11 : Int32) (x12 : Int32), wX0_summary_63 a1 a2 I K153 post f x3 x4 x5 x6 x7 x8 x9 x10 x11 x12 → V X mX0_summary 1 0 0 (q_Pi S (fun r I2 J2 => I = I2 ∧ J = J2 ∧ post r)) 63 [(0, .ref 23), (2, .int a2), (3, .int x3), (4, .int x4), (5, .int x5), (6, .int x6), (7, .int x7), (8, .int x8), (9, .int x9), (10, .int x10), (11, .int x11), (12, .int x12)] [] S I J 0 0 := by
  intro f
  induction f with
  | zero => intro x3 x4 x5 x6 x7 x8 x9 x10 x11 x12 h; exact h.elim
  | succ n ih =>
    intro x3 x4 x5 x6 x7 x8 x9 x10 x11 x12 h
    replace h : ((x7 ≤ x12 → (K153 x4 x8 x9 x10 x11)) ∧ (¬ x7 ≤ x12 → (wX0_valueAt x3 x12 x5 I (fun r6 => ((r6 = a2 → (∀ v7 : Int32, v7 = (x10 + 1) → (wX0_valueAt x3 x12 x6 I (fun r8 => ((¬ r8 = (-1000) → ((x8 = 0 → (∀ v9 : Int32, v9 = (x8 + 1) → (∀ v10 : Int32, v10 = (x9 + r8) → (∀ v11 : Int32, v11 = (x12 + 1) → (wX0_summary_63 a1 a2 I K153 post n x3 x4 x5 x6 x7 v9 v10 v7 r8 v11))))) ∧ (¬ x8 = 0 → (wX0_isBetter x4 r8 x11 I (fun r12 => ((r12 = 0 → (∀ v13 : Int32, v13 = (x8 + 1) → (∀ v14 : Int32, v14 = (x9 + r8) → (∀ v15 : Int32, v15 = (x12 + 1) → (wX0_summary_63 a1 a2 I K153 post n x3 x4 x5 x6 x7 v13 v14 v7 x11 v15))))) ∧ (¬ r12 = 0 → (∀ v16 : Int32, v16 = (x8 + 1) → (∀ v17 : Int32, v17 = (x9 + r8) → (∀ v18 : Int32, v18 = (x12 + 1) → (wX0_summary_63 a1 a2 I K153 post n x3 x4 x5 x6 x7 v16 v17 v7 r8 v18))))))))))) ∧ (r8 = (-1000) → (∀ v19 : Int32, v19 = (x12 + 1) → (wX0_summary_63 a1 a2 I K153 post n x3 x4 x5 x6 x7 x8 x9 v7 x11 v19)))))))) ∧ (¬ r6 = a2 → (∀ v20 : Int32, v20 = (x12 + 1) → (wX0_summary_63 a1 a2 I K153 post n x3 x4 x5 x6 x7 x8 x9 x10 x11 v20)))))))) := h
    refine V_iload dX0_summary_63 rfl ?_
    refine V_iload dX0_summary_65 rfl ?_
    refine V_icmp_ge 153 dX0_summary_67 rfl (fun hc => ?_) (fun hc => ?_)
    · replace h := h.1 hc
      refine V_sub (lo2 := [(4, .int x4), (8, .int x8), (9, .int x9), (10, .int x10), (11, .int x11)]) [3, 7, 8, 9, 10] rfl ?_
      exact hK153 _ _ _ _ _ h
    · replace h := h.2 hc
      refine V_aload_n dX0_summary_70 rfl rfl ?_
      refine V_iload_n dX0_summary_71 rfl rfl ?_
      refine V_iload dX0_summary_72 rfl ?_
      refine V_iload dX0_summary_74 rfl ?_
      refine V_callVi (st := []) [.int x3, .int x12, .int x5] dX0_summary_76 ok_mX0_valueAt rfl ml_RX0_147 in_mX0_valueAt se_mX0_valueAt (hS.n 23 rfl) (hS.k 23 0 rfl) (by decide) rfl (Nat.le_of_ble_eq_true rfl) (by decide) (by decide) (by decide) (s_mX0_valueAt hS h) (fun r6 I9 J9 h => ?_)
      obtain ⟨rfl, rfl, h⟩ := h
      refine V_iload_n dX0_summary_79 rfl rfl ?_
      refine V_icmp_eq 86 dX0_summary_80 rfl (fun hc => ?_) (fun hc => ?_)
      · replace h := h.1 hc
        obtain ⟨v7, e_v7⟩ : ∃ z : Int32, z = (x10 + 1) := ⟨_, rfl⟩
        replace h := h v7 e_v7
        refine V_iinc (lo2 := [(10, .int v7), (0, .ref 23), (2, .int a2), (3, .int x3), (4, .int x4), (5, .int x5), (6, .int x6), (7, .int x7), (8, .int x8), (9, .int x9), (11, .int x11), (12, .int x12)]) 9 dX0_summary_86 rfl (v := v7) (by rw [e_v7]; first | done | rfl) (by decide) rfl ?_
        refine V_aload_n dX0_summary_89 rfl rfl ?_
        refine V_iload_n dX0_summary_90 rfl rfl ?_
        refine V_iload dX0_summary_91 rfl ?_
        refine V_iload dX0_summary_93 rfl ?_
        refine V_callVi (st := []) [.int x3, .int x12, .int x6] dX0_summary_95 ok_mX0_valueAt rfl ml_RX0_147 in_mX0_valueAt se_mX0_valueAt (hS.n 23 rfl) (hS.k 23 0 rfl) (by decide) rfl (Nat.le_of_ble_eq_true rfl) (by decide) (by decide) (by decide) (s_mX0_valueAt hS h) (fun r8 I9 J9 h => ?_)
        obtain ⟨rfl, rfl, h⟩ := h
        refine V_istore (lo2 := [(13, .int r8), (10, .int v7), (0, .ref 23), (2, .int a2), (3, .int x3), (4, .int x4), (5, .int x5), (6, .int x6), (7, .int x7), (8, .int x8), (9, .int x9), (11, .int x11), (12, .int x12)]) dX0_summary_98 (by decide) rfl ?_
        refine V_iload dX0_summary_100 rfl ?_
        refine V_sipush (v := (-1000)) dX0_summary_102 (by decide) ?_
        refine V_icmp_ne 111 dX0_summary_105 rfl (fun hc => ?_) (fun hc => ?_)
        · replace h := h.1 hc
          refine V_iload dX0_summary_111 rfl ?_
          refine V_if_eq 128 dX0_summary_113 rfl (fun hc => ?_) (fun hc => ?_)
          · replace h := h.1 hc
            refine V_iload dX0_summary_128 rfl ?_
            refine V_goto 135 dX0_summary_130 rfl ?_
            refine V_istore (lo2 := [(11, .int r8), (13, .int r8), (10, .int v7), (0, .ref 23), (2, .int a2), (3, .int x3), (4, .int x4), (5, .int x5), (6, .int x6), (7, .int x7), (8, .int x8), (9, .int x9), (12, .int x12)]) dX0_summary_135 (by decide) rfl ?_
            obtain ⟨v9, e_v9⟩ : ∃ z : Int32, z = (x8 + 1) := ⟨_, rfl⟩
            replace h := h v9 e_v9
            refine V_iinc (lo2 := [(8, .int v9), (11, .int r8), (13, .int r8), (10, .int v7), (0, .ref 23), (2, .int a2), (3, .int x3), (4, .int x4), (5, .int x5), (6, .int x6), (7, .int x7), (9, .int x9), (12, .int x12)]) 10 dX0_summary_137 rfl (v := v9) (by rw [e_v9]; first | done | rfl) (by decide) rfl ?_
            refine V_iload dX0_summary_140 rfl ?_
            refine V_iload dX0_summary_142 rfl ?_
            refine V_iadd dX0_summary_144 ?_
            refine V_topi (fun v10 e_v10 => ?_)
            replace h := h v10 e_v10
            refine V_istore (lo2 := [(9, .int v10), (8, .int v9), (11, .int r8), (13, .int r8), (10, .int v7), (0, .ref 23), (2, .int a2), (3, .int x3), (4, .int x4), (5, .int x5), (6, .int x6), (7, .int x7), (12, .int x12)]) dX0_summary_145 (by decide) rfl ?_
            obtain ⟨v11, e_v11⟩ : ∃ z : Int32, z = (x12 + 1) := ⟨_, rfl⟩
            replace h := h v11 e_v11
            refine V_iinc (lo2 := [(12, .int v11), (9, .int v10), (8, .int v9), (11, .int r8), (13, .int r8), (10, .int v7), (0, .ref 23), (2, .int a2), (3, .int x3), (4, .int x4), (5, .int x5), (6, .int x6), (7, .int x7)]) 12 dX0_summary_147 rfl (v := v11) (by rw [e_v11]; first | done | rfl) (by decide) rfl ?_
            refine V_goto 63 dX0_summary_150 rfl ?_
            refine V_sub (lo2 := [(0, .ref 23), (2, .int a2), (3, .int x3), (4, .int x4), (5, .int x5), (6, .int x6), (7, .int x7), (8, .int v9), (9, .int v10), (10, .int v7), (11, .int r8), (12, .int v11)]) [6, 7, 8, 9, 10, 11, 12, 2, 1, 5, 3, 0] rfl ?_
            exact ih _ _ _ _ _ _ _ _ _ _ h
          · replace h := h.2 hc
            refine V_iload dX0_summary_116 rfl ?_
            refine V_iload dX0_summary_118 rfl ?_
            refine V_iload dX0_summary_120 rfl ?_
            refine V_callSi (st := []) [.int x4, .int r8, .int x11] dX0_summary_122 ok_mX0_isBetter rfl ml_RX0_176 st_mX0_isBetter (Nat.le_of_ble_eq_true rfl) (by decide) (by decide) (by decide) (s_mX0_isBetter hS h) (fun r12 I9 J9 h => ?_)
            obtain ⟨rfl, rfl, h⟩ := h
            refine V_if_eq 133 dX0_summary_125 rfl (fun hc => ?_) (fun hc => ?_)
            · replace h := h.1 hc
              refine V_iload dX0_summary_133 rfl ?_
              refine V_istore (lo2 := [(11, .int x11), (13, .int r8), (10, .int v7), (0, .ref 23), (2, .int a2), (3, .int x3), (4, .int x4), (5, .int x5), (6, .int x6), (7, .int x7), (8, .int x8), (9, .int x9), (12, .int x12)]) dX0_summary_135 (by decide) rfl ?_
              obtain ⟨v13, e_v13⟩ : ∃ z : Int32, z = (x8 + 1) := ⟨_, rfl⟩
              replace h := h v13 e_v13
              refine V_iinc (lo2 := [(8, .int v13), (11, .int x11), (13, .int r8), (10, .int v7), (0, .ref 23), (2, .int a2), (3, .int x3), (4, .int x4), (5, .int x5), (6, .int x6), (7, .int x7), (9, .int x9), (12, .int x12)]) 10 dX0_summary_137 rfl (v := v13) (by rw [e_v13]; first | done | rfl) (by decide) rfl ?_
              refine V_iload dX0_summary_140 rfl ?_
              refine V_iload dX0_summary_142 rfl ?_
              refine V_iadd dX0_summary_144 ?_
              refine V_topi (fun v14 e_v14 => ?_)
              replace h := h v14 e_v14
              refine V_istore (lo2 := [(9, .int v14), (8, .int v13), (11, .int x11), (13, .int r8), (10, .int v7), (0, .ref 23), (2, .int a2), (3, .int x3), (4, .int x4), (5, .int x5), (6, .int x6), (7, .int x7), (12, .int x12)]) dX0_summary_145 (by decide) rfl ?_
              obtain ⟨v15, e_v15⟩ : ∃ z : Int32, z = (x12 + 1) := ⟨_, rfl⟩
              replace h := h v15 e_v15
              refine V_iinc (lo2 := [(12, .int v15), (9, .int v14), (8, .int v13), (11, .int x11), (13, .int r8), (10, .int v7), (0, .ref 23), (2, .int a2), (3, .int x3), (4, .int x4), (5, .int x5), (6, .int x6), (7, .int x7)]) 12 dX0_summary_147 rfl (v := v15) (by rw [e_v15]; first | done | rfl) (by decide) rfl ?_
              refine V_goto 63 dX0_summary_150 rfl ?_
              refine V_sub (lo2 := [(0, .ref 23), (2, .int a2), (3, .int x3), (4, .int x4), (5, .int x5), (6, .int x6), (7, .int x7), (8, .int v13), (9, .int v14), (10, .int v7), (11, .int x11), (12, .int v15)]) [6, 7, 8, 9, 10, 11, 12, 2, 1, 5, 3, 0] rfl ?_
              exact ih _ _ _ _ _ _ _ _ _ _ h
            · replace h := h.2 hc
              refine V_iload dX0_summary_128 rfl ?_
              refine V_goto 135 dX0_summary_130 rfl ?_
              refine V_istore (lo2 := [(11, .int r8), (13, .int r8), (10, .int v7), (0, .ref 23), (2, .int a2), (3, .int x3), (4, .int x4), (5, .int x5), (6, .int x6), (7, .int x7), (8, .int x8), (9, .int x9), (12, .int x12)]) dX0_summary_135 (by decide) rfl ?_
              obtain ⟨v16, e_v16⟩ : ∃ z : Int32, z = (x8 + 1) := ⟨_, rfl⟩
              replace h := h v16 e_v16
              refine V_iinc (lo2 := [(8, .int v16), (11, .int r8), (13, .int r8), (10, .int v7), (0, .ref 23), (2, .int a2), (3, .int x3), (4, .int x4), (5, .int x5), (6, .int x6), (7, .int x7), (9, .int x9), (12, .int x12)]) 10 dX0_summary_137 rfl (v := v16) (by rw [e_v16]; first | done | rfl) (by decide) rfl ?_
              refine V_iload dX0_summary_140 rfl ?_
              refine V_iload dX0_summary_142 rfl ?_
              refine V_iadd dX0_summary_144 ?_
              refine V_topi (fun v17 e_v17 => ?_)
              replace h := h v17 e_v17
              refine V_istore (lo2 := [(9, .int v17), (8, .int v16), (11, .int r8), (13, .int r8), (10, .int v7), (0, .ref 23), (2, .int a2), (3, .int x3), (4, .int x4), (5, .int x5), (6, .int x6), (7, .int x7), (12, .int x12)]) dX0_summary_145 (by decide) rfl ?_
              obtain ⟨v18, e_v18⟩ : ∃ z : Int32, z = (x12 + 1) := ⟨_, rfl⟩
              replace h := h v18 e_v18
              refine V_iinc (lo2 := [(12, .int v18), (9, .int v17), (8, .int v16), (11, .int r8), (13, .int r8), (10, .int v7), (0, .ref 23), (2, .int a2), (3, .int x3), (4, .int x4), (5, .int x5), (6, .int x6), (7, .int x7)]) 12 dX0_summary_147 rfl (v := v18) (by rw [e_v18]; first | done | rfl) (by decide) rfl ?_
              refine V_goto 63 dX0_summary_150 rfl ?_
              refine V_sub (lo2 := [(0, .ref 23), (2, .int a2), (3, .int x3), (4, .int x4), (5, .int x5), (6, .int x6), (7, .int x7), (8, .int v16), (9, .int v17), (10, .int v7), (11, .int r8), (12, .int v18)]) [6, 7, 8, 9, 10, 11, 12, 2, 1, 5, 3, 0] rfl ?_
              exact ih _ _ _ _ _ _ _ _ _ _ h
        · replace h := h.2 hc
          refine V_goto 147 dX0_summary_108 rfl ?_
          obtain ⟨v19, e_v19⟩ : ∃ z : Int32, z = (x12 + 1) := ⟨_, rfl⟩
          replace h := h v19 e_v19
          refine V_iinc (lo2 := [(12, .int v19), (13, .int r8), (10, .int v7), (0, .ref 23), (2, .int a2), (3, .int x3), (4, .int x4), (5, .int x5), (6, .int x6), (7, .int x7), (8, .int x8), (9, .int x9), (11, .int x11)]) 12 dX0_summary_147 rfl (v := v19) (by rw [e_v19]; first | done | rfl) (by decide) rfl ?_
          refine V_goto 63 dX0_summary_150 rfl ?_
          refine V_sub (lo2 := [(0, .ref 23), (2, .int a2), (3, .int x3), (4, .int x4), (5, .int x5), (6, .int x6), (7, .int x7), (8, .int x8), (9, .int x9), (10, .int v7), (11, .int x11), (12, .int v19)]) [3, 4, 5, 6, 7, 8, 9, 10, 11, 2, 12, 0] rfl ?_
          exact ih _ _ _ _ _ _ _ _ _ _ h
      · replace h := h.2 hc
        refine V_goto 147 dX0_summary_83 rfl ?_
        obtain ⟨v20, e_v20⟩ : ∃ z : Int32, z = (x12 + 1) := ⟨_, rfl⟩
        replace h := h v20 e_v20
        refine V_iinc (lo2 := [(12, .int v20), (0, .ref 23), (2, .int a2), (3, .int x3), (4, .int x4), (5, .int x5), (6, .int x6), (7, .int x7), (8, .int x8), (9, .int x9), (10, .int x10), (11, .int x11)]) 11 dX0_summary_147 rfl (v := v20) (by rw [e_v20]; first | done | rfl) (by decide) rfl ?_
        refine V_goto 63 dX0_summary_150 rfl ?_
        refine V_sub (lo2 := [(0, .ref 23), (2, .int a2), (3, .int x3), (4, .int x4), (5, .int x5), (6, .int x6), (7, .int x7), (8, .int x8), (9, .int x9), (10, .int x10), (11, .int x11), (12, .int v20)]) [1, 2, 3, 4, 5, 6, 7, 8, 9, 10, 11, 0] rfl ?_
        exact ih _ _ _ _ _ _ _ _ _ _ h
def wX0_summary (a1 : Int32) (a2 : Int32) (I : QI) (post : Int32 → Prop) : Prop := (wX2_firstOf a1 I (fun r1 => (wX2_kindOf a1 I (fun r2 => (wX2_columnOf a1 I (fun r3 => (wX2_extraOf a1 I (fun r4 => (wX0_countOf r1 I (fun r5 => (∃ f : Nat, wX0_summary_63 a1 a2 I (fun u21 u22 u23 u24 u25 => ((u21 = 0 → post u24) ∧ (u21 = 1 → post u22) ∧ (u21 = 2 → ((¬ u22 = 0 → post (if (-99) < (if u23 < 99 then u23 else 99) then (if u23 < 99 then u23 else 99) else (-99))) ∧ (u22 = 0 → post (-1000)))) ∧ (¬ u21 = 0 → ¬ u21 = 1 → ¬ u21 = 2 → post u25))) post f r1 r2 r3 r4 r5 0 0 0 (-1000) 0)))))))))))
set_option maxRecDepth 100000 in
set_option maxHeartbeats 4000000 in
theorem s_mX0_summary {X : QX} {S : QS} {a1 : Int32} {a2 : Int32} {I : QI} {J : QJ} {post : Int32 → Prop} (hS : Sh S) (h : wX0_summary a1 a2 I post) : CX X mX0_summary 1 0 0 [.ref 23, .int a1, .int a2] S I J (q_Pi S (fun r I2 J2 => I = I2 ∧ J = J2 ∧ post r)) := by
  refine CX.of (lo := [(0, .ref 23), (1, .int a1), (2, .int a2)]) ok_mX0_summary rfl (Nat.le_of_ble_eq_true rfl) rfl ?_
  replace h : (wX2_firstOf a1 I (fun r1 => (wX2_kindOf a1 I (fun r2 => (wX2_columnOf a1 I (fun r3 => (wX2_extraOf a1 I (fun r4 => (wX0_countOf r1 I (fun r5 => (∃ f : Nat, wX0_summary_63 a1 a2 I (fun u21 u22 u23 u24 u25 => ((u21 = 0 → post u24) ∧ (u21 = 1 → post u22) ∧ (u21 = 2 → ((¬ u22 = 0 → post (if (-99) < (if u23 < 99 then u23 else 99) then (if u23 < 99 then u23 else 99) else (-99))) ∧ (u22 = 0 → post (-1000)))) ∧ (¬ u21 = 0 → ¬ u21 = 1 → ¬ u21 = 2 → post u25))) post f r1 r2 r3 r4 r5 0 0 0 (-1000) 0))))))))))) := h
  refine V_aload_n dX0_summary_0 rfl rfl ?_
  refine V_getr dX0_summary_1 fl_RX0_15 (hS.n 23 rfl) (hS.k 23 0 rfl) rfl (hS.r 23 1 15 rfl) ?_
  refine V_iload_n dX0_summary_4 rfl rfl ?_
  refine V_callVi (st := []) [.int a1] dX0_summary_5 ok_mX2_firstOf rfl ml_RX0_85 in_mX2_firstOf se_mX2_firstOf (hS.n 15 rfl) (hS.k 15 2 rfl) (by decide) rfl (Nat.le_of_ble_eq_true rfl) (by decide) (by decide) (by decide) (s_mX2_firstOf hS h) (fun r1 I9 J9 h => ?_)
  obtain ⟨rfl, rfl, h⟩ := h
  refine V_istore_n (lo2 := [(3, .int r1), (0, .ref 23), (1, .int a1), (2, .int a2)]) dX0_summary_8 rfl (by decide) rfl ?_
  refine V_aload_n dX0_summary_9 rfl rfl ?_
  refine V_getr dX0_summary_10 fl_RX0_15 (hS.n 23 rfl) (hS.k 23 0 rfl) rfl (hS.r 23 1 15 rfl) ?_
  refine V_iload_n dX0_summary_13 rfl rfl ?_
  refine V_callVi (st := []) [.int a1] dX0_summary_14 ok_mX2_kindOf rfl ml_RX0_107 in_mX2_kindOf se_mX2_kindOf (hS.n 15 rfl) (hS.k 15 2 rfl) (by decide) rfl (Nat.le_of_ble_eq_true rfl) (by decide) (by decide) (by decide) (s_mX2_kindOf hS h) (fun r2 I9 J9 h => ?_)
  obtain ⟨rfl, rfl, h⟩ := h
  refine V_istore (lo2 := [(4, .int r2), (3, .int r1), (0, .ref 23), (1, .int a1), (2, .int a2)]) dX0_summary_17 (by decide) rfl ?_
  refine V_aload_n dX0_summary_19 rfl rfl ?_
  refine V_getr dX0_summary_20 fl_RX0_15 (hS.n 23 rfl) (hS.k 23 0 rfl) rfl (hS.r 23 1 15 rfl) ?_
  refine V_iload_n dX0_summary_23 rfl rfl ?_
  refine V_callVi (st := []) [.int a1] dX0_summary_24 ok_mX2_columnOf rfl ml_RX0_144 in_mX2_columnOf se_mX2_columnOf (hS.n 15 rfl) (hS.k 15 2 rfl) (by decide) rfl (Nat.le_of_ble_eq_true rfl) (by decide) (by decide) (by decide) (s_mX2_columnOf hS h) (fun r3 I9 J9 h => ?_)
  obtain ⟨rfl, rfl, h⟩ := h
  refine V_istore (lo2 := [(5, .int r3), (4, .int r2), (3, .int r1), (0, .ref 23), (1, .int a1), (2, .int a2)]) dX0_summary_27 (by decide) rfl ?_
  refine V_aload_n dX0_summary_29 rfl rfl ?_
  refine V_getr dX0_summary_30 fl_RX0_15 (hS.n 23 rfl) (hS.k 23 0 rfl) rfl (hS.r 23 1 15 rfl) ?_
  refine V_iload_n dX0_summary_33 rfl rfl ?_
  refine V_callVi (st := []) [.int a1] dX0_summary_34 ok_mX2_extraOf rfl ml_RX0_151 in_mX2_extraOf se_mX2_extraOf (hS.n 15 rfl) (hS.k 15 2 rfl) (by decide) rfl (Nat.le_of_ble_eq_true rfl) (by decide) (by decide) (by decide) (s_mX2_extraOf hS h) (fun r4 I9 J9 h => ?_)
  obtain ⟨rfl, rfl, h⟩ := h
  refine V_istore (lo2 := [(6, .int r4), (5, .int r3), (4, .int r2), (3, .int r1), (0, .ref 23), (1, .int a1), (2, .int a2)]) dX0_summary_37 (by decide) rfl ?_
  refine V_aload_n dX0_summary_39 rfl rfl ?_
  refine V_iload_n dX0_summary_40 rfl rfl ?_
  refine V_callVi (st := []) [.int r1] dX0_summary_41 ok_mX0_countOf rfl ml_RX0_65 in_mX0_countOf se_mX0_countOf (hS.n 23 rfl) (hS.k 23 0 rfl) (by decide) rfl (Nat.le_of_ble_eq_true rfl) (by decide) (by decide) (by decide) (s_mX0_countOf hS h) (fun r5 I9 J9 h => ?_)
  obtain ⟨rfl, rfl, h⟩ := h
  refine V_istore (lo2 := [(7, .int r5), (6, .int r4), (5, .int r3), (4, .int r2), (3, .int r1), (0, .ref 23), (1, .int a1), (2, .int a2)]) dX0_summary_44 (by decide) rfl ?_
  refine V_iconst (v := 0) dX0_summary_46 (by decide) ?_
  refine V_istore (lo2 := [(8, .int 0), (7, .int r5), (6, .int r4), (5, .int r3), (4, .int r2), (3, .int r1), (0, .ref 23), (1, .int a1), (2, .int a2)]) dX0_summary_47 (by decide) rfl ?_
  refine V_iconst (v := 0) dX0_summary_49 (by decide) ?_
  refine V_istore (lo2 := [(9, .int 0), (8, .int 0), (7, .int r5), (6, .int r4), (5, .int r3), (4, .int r2), (3, .int r1), (0, .ref 23), (1, .int a1), (2, .int a2)]) dX0_summary_50 (by decide) rfl ?_
  refine V_iconst (v := 0) dX0_summary_52 (by decide) ?_
  refine V_istore (lo2 := [(10, .int 0), (9, .int 0), (8, .int 0), (7, .int r5), (6, .int r4), (5, .int r3), (4, .int r2), (3, .int r1), (0, .ref 23), (1, .int a1), (2, .int a2)]) dX0_summary_53 (by decide) rfl ?_
  refine V_sipush (v := (-1000)) dX0_summary_55 (by decide) ?_
  refine V_istore (lo2 := [(11, .int (-1000)), (10, .int 0), (9, .int 0), (8, .int 0), (7, .int r5), (6, .int r4), (5, .int r3), (4, .int r2), (3, .int r1), (0, .ref 23), (1, .int a1), (2, .int a2)]) dX0_summary_58 (by decide) rfl ?_
  refine V_iconst (v := 0) dX0_summary_60 (by decide) ?_
  refine V_istore (lo2 := [(12, .int 0), (11, .int (-1000)), (10, .int 0), (9, .int 0), (8, .int 0), (7, .int r5), (6, .int r4), (5, .int r3), (4, .int r2), (3, .int r1), (0, .ref 23), (1, .int a1), (2, .int a2)]) dX0_summary_61 (by decide) rfl ?_
  refine V_sub (lo2 := [(0, .ref 23), (2, .int a2), (3, .int r1), (4, .int r2), (5, .int r3), (6, .int r4), (7, .int r5), (8, .int 0), (9, .int 0), (10, .int 0), (11, .int (-1000)), (12, .int 0)]) [10, 12, 9, 8, 7, 6, 5, 4, 3, 2, 1, 0] rfl ?_
  obtain ⟨f9, h⟩ := h
  refine swX0_summary_63 hS ?_ f9 _ _ _ _ _ _ _ _ _ _ h
  · intro u21 u22 u23 u24 u25 h
    refine V_iload dX0_summary_153 rfl ?_
    by_cases hc0 : u21 = 0
    · replace h := h.1 hc0
      refine V_tableIn 180 dX0_summary_155 (by rw [hc0]; decide) (by rw [hc0]; decide) (by rw [hc0]; first | done | rfl) rfl ?_
      refine V_iload dX0_summary_180 rfl ?_
      exact V_iret dX0_summary_182 rfl (by decide) (by decide) ⟨_, rfl, rfl, rfl, rfl, h⟩
    by_cases hc1 : u21 = 1
    · replace h := h.2.1 hc1
      refine V_tableIn 183 dX0_summary_155 (by rw [hc1]; decide) (by rw [hc1]; decide) (by rw [hc1]; first | done | rfl) rfl ?_
      refine V_iload dX0_summary_183 rfl ?_
      exact V_iret dX0_summary_185 rfl (by decide) (by decide) ⟨_, rfl, rfl, rfl, rfl, h⟩
    by_cases hc2 : u21 = 2
    · replace h := h.2.2.1 hc2
      refine V_tableIn 186 dX0_summary_155 (by rw [hc2]; decide) (by rw [hc2]; decide) (by rw [hc2]; first | done | rfl) rfl ?_
      refine V_iload dX0_summary_186 rfl ?_
      refine V_if_ne 197 dX0_summary_188 rfl (fun hc => ?_) (fun hc => ?_)
      · replace h := h.1 hc
        refine V_bipush (v := (-99)) dX0_summary_197 (by decide) ?_
        refine V_bipush (v := 99) dX0_summary_199 (by decide) ?_
        refine V_iload dX0_summary_201 rfl ?_
        refine V_min dX0_summary_203 ml_RX0_95 mm_min.1 mm_min.2.1 mm_min.2.2 (Nat.le_of_ble_eq_true rfl) (by decide) (by decide) ?_
        refine V_max dX0_summary_206 ml_RX0_179 mm_max.1 mm_max.2.1 mm_max.2.2 (Nat.le_of_ble_eq_true rfl) (by decide) (by decide) ?_
        exact V_iret dX0_summary_209 rfl (by decide) (by decide) ⟨_, rfl, rfl, rfl, rfl, h⟩
      · replace h := h.2 hc
        refine V_sipush (v := (-1000)) dX0_summary_191 (by decide) ?_
        refine V_goto 209 dX0_summary_194 rfl ?_
        exact V_iret dX0_summary_209 rfl (by decide) (by decide) ⟨_, rfl, rfl, rfl, rfl, h⟩
    replace h := h.2.2.2 hc0 hc1 hc2
    have n0 := q_tsw (c := 0) hc0 (by decide) (by decide)
    have n1 := q_tsw (c := 1) hc1 (by decide) (by decide)
    have n2 := q_tsw (c := 2) hc2 (by decide) (by decide)
    refine V_tableOut 210 dX0_summary_155 (by omega) rfl ?_
    refine V_iload dX0_summary_210 rfl ?_
    exact V_iret dX0_summary_212 rfl (by decide) (by decide) ⟨_, rfl, rfl, rfl, rfl, h⟩
def wX0_fillGroup_11 (a1 : Int32) (post : Int32 → QI → Prop) : Nat → Int32 → Int32 → QI → Prop
  | 0, _, _, _ => False
  | n + 1, x2, x3, I => (wX0_countOf x2 I (fun r2 => ((r2 ≤ x3 → post 1 I) ∧ (¬ r2 ≤ x3 → (wX2_columnOf a1 I (fun r3 => (wX0_valueAt x2 x3 r3 I (fun r4 => (wX0_findRow a1 0 r4 I (fun r5 => ((¬ r5 = (-1) → (∀ v6 : Int32, v6 = (x3 + 1) → (wX0_fillGroup_11 a1 post n x2 v6 I))) ∧ (r5 = (-1) → (wX0_newRow a1 I (fun r8 I7 => (wX0_put a1 r8 0 r4 I7 (fun I9 => (wX0_summary a1 r4 I9 (fun r10 => (wX0_put a1 r8 1 r10 I9 (fun I11 => (∀ v12 : Int32, v12 = (x3 + 1) → (wX0_fillGroup_11 a1 post n x2 v12 I11))))))))))))))))))))))
set_option maxRecDepth 100000 in
set_option maxHeartbeats 4000000 in
theorem swX0_fillGroup_11 {X : QX} {S : QS} {a1 : Int32} {J : QJ} {post : Int32 → QI → Prop} (hS : Sh S) : ∀ (f : Nat) (x2 : Int32) (x3 : Int32) (I : QI), wX0_fillGroup_11 a1 post f x2 x3 I → V X mX0_fillGroup 2 0 0 (q_Pi S (fun r I2 J2 => J = J2 ∧ post r I2)) 11 [(0, .ref 23), (1, .int a1), (2, .int x2), (3, .int x3)] [] S I J 0 0 := by
  intro f
  induction f with
  | zero => intro x2 x3 I h; exact h.elim
  | succ n ih =>
    intro x2 x3 I h
    replace h : (wX0_countOf x2 I (fun r2 => ((r2 ≤ x3 → post 1 I) ∧ (¬ r2 ≤ x3 → (wX2_columnOf a1 I (fun r3 => (wX0_valueAt x2 x3 r3 I (fun r4 => (wX0_findRow a1 0 r4 I (fun r5 => ((¬ r5 = (-1) → (∀ v6 : Int32, v6 = (x3 + 1) → (wX0_fillGroup_11 a1 post n x2 v6 I))) ∧ (r5 = (-1) → (wX0_newRow a1 I (fun r8 I7 => (wX0_put a1 r8 0 r4 I7 (fun I9 => (wX0_summary a1 r4 I9 (fun r10 => (wX0_put a1 r8 1 r10 I9 (fun I11 => (∀ v12 : Int32, v12 = (x3 + 1) → (wX0_fillGroup_11 a1 post n x2 v12 I11)))))))))))))))))))))) := h
    refine V_iload_n dX0_fillGroup_11 rfl rfl ?_
    refine V_aload_n dX0_fillGroup_12 rfl rfl ?_
    refine V_iload_n dX0_fillGroup_13 rfl rfl ?_
    refine V_callVi (st := [.int x3]) [.int x2] dX0_fillGroup_14 ok_mX0_countOf rfl ml_RX0_65 in_mX0_countOf se_mX0_countOf (hS.n 23 rfl) (hS.k 23 0 rfl) (by decide) rfl (Nat.le_of_ble_eq_true rfl) (by decide) (by decide) (by decide) (s_mX0_countOf hS h) (fun r2 I9 J9 h => ?_)
    obtain ⟨rfl, rfl, h⟩ := h
    refine V_icmp_ge 86 dX0_fillGroup_17 rfl (fun hc => ?_) (fun hc => ?_)
    · replace h := h.1 hc
      refine V_iconst (v := 1) dX0_fillGroup_86 (by decide) ?_
      exact V_zret dX0_fillGroup_87 rfl (by decide) (by decide) (by decide) ⟨_, rfl, rfl, rfl, h⟩
    · replace h := h.2 hc
      refine V_aload_n dX0_fillGroup_20 rfl rfl ?_
      refine V_iload_n dX0_fillGroup_21 rfl rfl ?_
      refine V_iload_n dX0_fillGroup_22 rfl rfl ?_
      refine V_aload_n dX0_fillGroup_23 rfl rfl ?_
      refine V_getr dX0_fillGroup_24 fl_RX0_15 (hS.n 23 rfl) (hS.k 23 0 rfl) rfl (hS.r 23 1 15 rfl) ?_
      refine V_iload_n dX0_fillGroup_27 rfl rfl ?_
      refine V_callVi (st := [.int x3, .int x2, .ref 23]) [.int a1] dX0_fillGroup_28 ok_mX2_columnOf rfl ml_RX0_144 in_mX2_columnOf se_mX2_columnOf (hS.n 15 rfl) (hS.k 15 2 rfl) (by decide) rfl (Nat.le_of_ble_eq_true rfl) (by decide) (by decide) (by decide) (s_mX2_columnOf hS h) (fun r3 I9 J9 h => ?_)
      obtain ⟨rfl, rfl, h⟩ := h
      refine V_callVi (st := []) [.int x2, .int x3, .int r3] dX0_fillGroup_31 ok_mX0_valueAt rfl ml_RX0_147 in_mX0_valueAt se_mX0_valueAt (hS.n 23 rfl) (hS.k 23 0 rfl) (by decide) rfl (Nat.le_of_ble_eq_true rfl) (by decide) (by decide) (by decide) (s_mX0_valueAt hS h) (fun r4 I9 J9 h => ?_)
      obtain ⟨rfl, rfl, h⟩ := h
      refine V_istore (lo2 := [(4, .int r4), (0, .ref 23), (1, .int a1), (2, .int x2), (3, .int x3)]) dX0_fillGroup_34 (by decide) rfl ?_
      refine V_aload_n dX0_fillGroup_36 rfl rfl ?_
      refine V_iload_n dX0_fillGroup_37 rfl rfl ?_
      refine V_iconst (v := 0) dX0_fillGroup_38 (by decide) ?_
      refine V_iload dX0_fillGroup_39 rfl ?_
      refine V_callVi (st := []) [.int a1, .int 0, .int r4] dX0_fillGroup_41 ok_mX0_findRow rfl ml_RX0_170 in_mX0_findRow se_mX0_findRow (hS.n 23 rfl) (hS.k 23 0 rfl) (by decide) rfl (Nat.le_of_ble_eq_true rfl) (by decide) (by decide) (by decide) (s_mX0_findRow hS h) (fun r5 I9 J9 h => ?_)
      obtain ⟨rfl, rfl, h⟩ := h
      refine V_iconst (v := (-1)) dX0_fillGroup_44 (by decide) ?_
      refine V_icmp_ne 80 dX0_fillGroup_45 rfl (fun hc => ?_) (fun hc => ?_)
      · replace h := h.1 hc
        obtain ⟨v6, e_v6⟩ : ∃ z : Int32, z = (x3 + 1) := ⟨_, rfl⟩
        replace h := h v6 e_v6
        refine V_iinc (lo2 := [(3, .int v6), (4, .int r4), (0, .ref 23), (1, .int a1), (2, .int x2)]) 4 dX0_fillGroup_80 rfl (v := v6) (by rw [e_v6]; first | done | rfl) (by decide) rfl ?_
        refine V_goto 11 dX0_fillGroup_83 rfl ?_
        refine V_sub (lo2 := [(0, .ref 23), (1, .int a1), (2, .int x2), (3, .int v6)]) [2, 3, 4, 0] rfl ?_
        exact ih _ _ _ h
      · replace h := h.2 hc
        refine V_aload_n dX0_fillGroup_48 rfl rfl ?_
        refine V_iload_n dX0_fillGroup_49 rfl rfl ?_
        refine V_callVi (st := []) [.int a1] dX0_fillGroup_50 ok_mX0_newRow rfl ml_RX0_131 in_mX0_newRow se_mX0_newRow (hS.n 23 rfl) (hS.k 23 0 rfl) (by decide) rfl (Nat.le_of_ble_eq_true rfl) (by decide) (by decide) (by decide) (s_mX0_newRow hS h) (fun r8 I7 J9 h => ?_)
        obtain ⟨rfl, h⟩ := h
        refine V_istore (lo2 := [(5, .int r8), (4, .int r4), (0, .ref 23), (1, .int a1), (2, .int x2), (3, .int x3)]) dX0_fillGroup_53 (by decide) rfl ?_
        refine V_aload_n dX0_fillGroup_55 rfl rfl ?_
        refine V_iload_n dX0_fillGroup_56 rfl rfl ?_
        refine V_iload dX0_fillGroup_57 rfl ?_
        refine V_iconst (v := 0) dX0_fillGroup_59 (by decide) ?_
        refine V_iload dX0_fillGroup_60 rfl ?_
        refine V_callVv (st := []) [.int a1, .int r8, .int 0, .int r4] dX0_fillGroup_62 ok_mX0_put rfl ml_RX0_140 in_mX0_put se_mX0_put (hS.n 23 rfl) (hS.k 23 0 rfl) (by decide) rfl (Nat.le_of_ble_eq_true rfl) (by decide) (by decide) (by decide) (s_mX0_put hS h) (fun I9 J9 h => ?_)
        obtain ⟨rfl, h⟩ := h
        refine V_aload_n dX0_fillGroup_65 rfl rfl ?_
        refine V_iload_n dX0_fillGroup_66 rfl rfl ?_
        refine V_iload dX0_fillGroup_67 rfl ?_
        refine V_iconst (v := 1) dX0_fillGroup_69 (by decide) ?_
        refine V_aload_n dX0_fillGroup_70 rfl rfl ?_
        refine V_iload_n dX0_fillGroup_71 rfl rfl ?_
        refine V_iload dX0_fillGroup_72 rfl ?_
        refine V_callVi (st := [.int 1, .int r8, .int a1, .ref 23]) [.int a1, .int r4] dX0_fillGroup_74 ok_mX0_summary rfl ml_RX0_173 in_mX0_summary se_mX0_summary (hS.n 23 rfl) (hS.k 23 0 rfl) (by decide) rfl (Nat.le_of_ble_eq_true rfl) (by decide) (by decide) (by decide) (s_mX0_summary hS h) (fun r10 I9 J9 h => ?_)
        obtain ⟨rfl, rfl, h⟩ := h
        refine V_callVv (st := []) [.int a1, .int r8, .int 1, .int r10] dX0_fillGroup_77 ok_mX0_put rfl ml_RX0_140 in_mX0_put se_mX0_put (hS.n 23 rfl) (hS.k 23 0 rfl) (by decide) rfl (Nat.le_of_ble_eq_true rfl) (by decide) (by decide) (by decide) (s_mX0_put hS h) (fun I11 J9 h => ?_)
        obtain ⟨rfl, h⟩ := h
        obtain ⟨v12, e_v12⟩ : ∃ z : Int32, z = (x3 + 1) := ⟨_, rfl⟩
        replace h := h v12 e_v12
        refine V_iinc (lo2 := [(3, .int v12), (5, .int r8), (4, .int r4), (0, .ref 23), (1, .int a1), (2, .int x2)]) 5 dX0_fillGroup_80 rfl (v := v12) (by rw [e_v12]; first | done | rfl) (by decide) rfl ?_
        refine V_goto 11 dX0_fillGroup_83 rfl ?_
        refine V_sub (lo2 := [(0, .ref 23), (1, .int a1), (2, .int x2), (3, .int v12)]) [3, 4, 5, 0] rfl ?_
        exact ih _ _ _ h
def wX0_fillGroup (a1 : Int32) (I : QI) (post : Int32 → QI → Prop) : Prop := (wX2_firstOf a1 I (fun r1 => (∃ f : Nat, wX0_fillGroup_11 a1 post f r1 0 I)))
set_option maxRecDepth 100000 in
set_option maxHeartbeats 4000000 in
theorem s_mX0_fillGroup {X : QX} {S : QS} {a1 : Int32} {I : QI} {J : QJ} {post : Int32 → QI → Prop} (hS : Sh S) (h : wX0_fillGroup a1 I post) : CX X mX0_fillGroup 2 0 0 [.ref 23, .int a1] S I J (q_Pi S (fun r I2 J2 => J = J2 ∧ post r I2)) := by
  refine CX.of (lo := [(0, .ref 23), (1, .int a1)]) ok_mX0_fillGroup rfl (Nat.le_of_ble_eq_true rfl) rfl ?_
  replace h : (wX2_firstOf a1 I (fun r1 => (∃ f : Nat, wX0_fillGroup_11 a1 post f r1 0 I))) := h
  refine V_aload_n dX0_fillGroup_0 rfl rfl ?_
  refine V_getr dX0_fillGroup_1 fl_RX0_15 (hS.n 23 rfl) (hS.k 23 0 rfl) rfl (hS.r 23 1 15 rfl) ?_
  refine V_iload_n dX0_fillGroup_4 rfl rfl ?_
  refine V_callVi (st := []) [.int a1] dX0_fillGroup_5 ok_mX2_firstOf rfl ml_RX0_85 in_mX2_firstOf se_mX2_firstOf (hS.n 15 rfl) (hS.k 15 2 rfl) (by decide) rfl (Nat.le_of_ble_eq_true rfl) (by decide) (by decide) (by decide) (s_mX2_firstOf hS h) (fun r1 I9 J9 h => ?_)
  obtain ⟨rfl, rfl, h⟩ := h
  refine V_istore_n (lo2 := [(2, .int r1), (0, .ref 23), (1, .int a1)]) dX0_fillGroup_8 rfl (by decide) rfl ?_
  refine V_iconst (v := 0) dX0_fillGroup_9 (by decide) ?_
  refine V_istore_n (lo2 := [(3, .int 0), (2, .int r1), (0, .ref 23), (1, .int a1)]) dX0_fillGroup_10 rfl (by decide) rfl ?_
  refine V_sub (lo2 := [(0, .ref 23), (1, .int a1), (2, .int r1), (3, .int 0)]) [2, 3, 1, 0] rfl ?_
  obtain ⟨f9, h⟩ := h
  refine swX0_fillGroup_11 hS f9 _ _ _ h
def wX0_fillScan_42 (a1 : Int32) (t3 : Nat) (K73 : Int32 → QI → Prop) (post : Int32 → QI → Prop) : Nat → Int32 → Int32 → Int32 → QI → Prop
  | 0, _, _, _, _ => False
  | n + 1, x3, x4, x5, I => (wX5_columns t3 I (fun r7 => ((r7 ≤ x5 → (K73 x3 I)) ∧ (¬ r7 ≤ x5 → (wX5_value t3 x3 x5 I (fun r8 => (wX0_put a1 x4 x5 r8 I (fun I9 => (∀ v10 : Int32, v10 = (x5 + 1) → (wX0_fillScan_42 a1 t3 K73 post n x3 x4 v10 I9))))))))))
set_option maxRecDepth 100000 in
set_option maxHeartbeats 4000000 in
theorem swX0_fillScan_42 {X : QX} {S : QS} {a1 : Int32} {t3 : Nat} {J : QJ} {K73 : Int32 → QI → Prop} {post : Int32 → QI → Prop} (hS : Sh S) (ht3 : t3 < 4) (hK73 : ∀ (z3 : Int32) (I : QI), K73 z3 I → V X mX0_fillScan 1 0 0 (q_Pi S (fun r I2 J2 => J = J2 ∧ post r I2)) 73 [(0, .ref 23), (1, .int a1), (2, .ref (3 + 3 * t3)), (3, .int z3)] [] S I J 0 0) : ∀ (f : Nat) (x3 : Int32) (x4 : Int32) (x5 : Int32) (I : QI), wX0_fillScan_42 a1 t3 K73 post f x3 x4 x5 I → V X mX0_fillScan 1 0 0 (q_Pi S (fun r I2 J2 => J = J2 ∧ post r I2)) 42 [(0, .ref 23), (1, .int a1), (2, .ref (3 + 3 * t3)), (3, .int x3), (4, .int x4), (5, .int x5)] [] S I J 0 0 := by
  intro f
  induction f with
  | zero => intro x3 x4 x5 I h; exact h.elim
  | succ n ih =>
    intro x3 x4 x5 I h
    replace h : (wX5_columns t3 I (fun r7 => ((r7 ≤ x5 → (K73 x3 I)) ∧ (¬ r7 ≤ x5 → (wX5_value t3 x3 x5 I (fun r8 => (wX0_put a1 x4 x5 r8 I (fun I9 => (∀ v10 : Int32, v10 = (x5 + 1) → (wX0_fillScan_42 a1 t3 K73 post n x3 x4 v10 I9)))))))))) := h
    refine V_iload dX0_fillScan_42 rfl ?_
    refine V_aload_n dX0_fillScan_44 rfl rfl ?_
    refine V_callVi (st := [.int x5]) [] dX0_fillScan_45 ok_mX5_columns rfl ml_RX0_134 in_mX5_columns se_mX5_columns (hS.tn ht3 3 rfl) (hS.tk ht3) (by decide) rfl (Nat.le_of_ble_eq_true rfl) (by decide) (by decide) (by decide) (s_mX5_columns hS ht3 h) (fun r7 I9 J9 h => ?_)
    obtain ⟨rfl, rfl, h⟩ := h
    refine V_icmp_ge 73 dX0_fillScan_48 rfl (fun hc => ?_) (fun hc => ?_)
    · replace h := h.1 hc
      refine V_sub (lo2 := [(0, .ref 23), (1, .int a1), (2, .ref (3 + 3 * t3)), (3, .int x3)]) [0, 1, 2, 3] rfl ?_
      exact hK73 _ _ h
    · replace h := h.2 hc
      refine V_aload_n dX0_fillScan_51 rfl rfl ?_
      refine V_iload_n dX0_fillScan_52 rfl rfl ?_
      refine V_iload dX0_fillScan_53 rfl ?_
      refine V_iload dX0_fillScan_55 rfl ?_
      refine V_aload_n dX0_fillScan_57 rfl rfl ?_
      refine V_iload_n dX0_fillScan_58 rfl rfl ?_
      refine V_iload dX0_fillScan_59 rfl ?_
      refine V_callVi (st := [.int x5, .int x4, .int a1, .ref 23]) [.int x3, .int x5] dX0_fillScan_61 ok_mX5_value rfl ml_RX0_137 in_mX5_value se_mX5_value (hS.tn ht3 3 rfl) (hS.tk ht3) (by decide) rfl (Nat.le_of_ble_eq_true rfl) (by decide) (by decide) (by decide) (s_mX5_value hS ht3 h) (fun r8 I9 J9 h => ?_)
      obtain ⟨rfl, rfl, h⟩ := h
      refine V_callVv (st := []) [.int a1, .int x4, .int x5, .int r8] dX0_fillScan_64 ok_mX0_put rfl ml_RX0_140 in_mX0_put se_mX0_put (hS.n 23 rfl) (hS.k 23 0 rfl) (by decide) rfl (Nat.le_of_ble_eq_true rfl) (by decide) (by decide) (by decide) (s_mX0_put hS h) (fun I9 J9 h => ?_)
      obtain ⟨rfl, h⟩ := h
      obtain ⟨v10, e_v10⟩ : ∃ z : Int32, z = (x5 + 1) := ⟨_, rfl⟩
      replace h := h v10 e_v10
      refine V_iinc (lo2 := [(5, .int v10), (0, .ref 23), (1, .int a1), (2, .ref (3 + 3 * t3)), (3, .int x3), (4, .int x4)]) 5 dX0_fillScan_67 rfl (v := v10) (by rw [e_v10]; first | done | rfl) (by decide) rfl ?_
      refine V_goto 42 dX0_fillScan_70 rfl ?_
      refine V_sub (lo2 := [(0, .ref 23), (1, .int a1), (2, .ref (3 + 3 * t3)), (3, .int x3), (4, .int x4), (5, .int v10)]) [1, 2, 3, 4, 5, 0] rfl ?_
      exact ih _ _ _ _ h
def wX0_fillScan_24 (a1 : Int32) (t3 : Nat) (post : Int32 → QI → Prop) : Nat → Int32 → QI → Prop
  | 0, _, _ => False
  | n + 1, x3, I => (wX5_count t3 I (fun r4 => ((r4 ≤ x3 → post 1 I) ∧ (¬ r4 ≤ x3 → (wX0_newRow a1 I (fun r6 I5 => (∃ f : Nat, wX0_fillScan_42 a1 t3 (fun u11 I12 => (∀ v13 : Int32, v13 = (u11 + 1) → (wX0_fillScan_24 a1 t3 post n v13 I12))) post f x3 r6 0 I5)))))))
set_option maxRecDepth 100000 in
set_option maxHeartbeats 4000000 in
theorem swX0_fillScan_24 {X : QX} {S : QS} {a1 : Int32} {t3 : Nat} {J : QJ} {post : Int32 → QI → Prop} (hS : Sh S) (ht3 : t3 < 4) : ∀ (f : Nat) (x3 : Int32) (I : QI), wX0_fillScan_24 a1 t3 post f x3 I → V X mX0_fillScan 1 0 0 (q_Pi S (fun r I2 J2 => J = J2 ∧ post r I2)) 24 [(0, .ref 23), (1, .int a1), (2, .ref (3 + 3 * t3)), (3, .int x3)] [] S I J 0 0 := by
  intro f
  induction f with
  | zero => intro x3 I h; exact h.elim
  | succ n ih =>
    intro x3 I h
    replace h : (wX5_count t3 I (fun r4 => ((r4 ≤ x3 → post 1 I) ∧ (¬ r4 ≤ x3 → (wX0_newRow a1 I (fun r6 I5 => (∃ f : Nat, wX0_fillScan_42 a1 t3 (fun u11 I12 => (∀ v13 : Int32, v13 = (u11 + 1) → (wX0_fillScan_24 a1 t3 post n v13 I12))) post f x3 r6 0 I5))))))) := h
    refine V_iload_n dX0_fillScan_24 rfl rfl ?_
    refine V_aload_n dX0_fillScan_25 rfl rfl ?_
    refine V_callVi (st := [.int x3]) [] dX0_fillScan_26 ok_mX5_count rfl ml_RX0_126 in_mX5_count se_mX5_count (hS.tn ht3 3 rfl) (hS.tk ht3) (by decide) rfl (Nat.le_of_ble_eq_true rfl) (by decide) (by decide) (by decide) (s_mX5_count hS ht3 h) (fun r4 I9 J9 h => ?_)
    obtain ⟨rfl, rfl, h⟩ := h
    refine V_icmp_ge 79 dX0_fillScan_29 rfl (fun hc => ?_) (fun hc => ?_)
    · replace h := h.1 hc
      refine V_iconst (v := 1) dX0_fillScan_79 (by decide) ?_
      exact V_zret dX0_fillScan_80 rfl (by decide) (by decide) (by decide) ⟨_, rfl, rfl, rfl, h⟩
    · replace h := h.2 hc
      refine V_aload_n dX0_fillScan_32 rfl rfl ?_
      refine V_iload_n dX0_fillScan_33 rfl rfl ?_
      refine V_callVi (st := []) [.int a1] dX0_fillScan_34 ok_mX0_newRow rfl ml_RX0_131 in_mX0_newRow se_mX0_newRow (hS.n 23 rfl) (hS.k 23 0 rfl) (by decide) rfl (Nat.le_of_ble_eq_true rfl) (by decide) (by decide) (by decide) (s_mX0_newRow hS h) (fun r6 I5 J9 h => ?_)
      obtain ⟨rfl, h⟩ := h
      refine V_istore (lo2 := [(4, .int r6), (0, .ref 23), (1, .int a1), (2, .ref (3 + 3 * t3)), (3, .int x3)]) dX0_fillScan_37 (by decide) rfl ?_
      refine V_iconst (v := 0) dX0_fillScan_39 (by decide) ?_
      refine V_istore (lo2 := [(5, .int 0), (4, .int r6), (0, .ref 23), (1, .int a1), (2, .ref (3 + 3 * t3)), (3, .int x3)]) dX0_fillScan_40 (by decide) rfl ?_
      refine V_sub (lo2 := [(0, .ref 23), (1, .int a1), (2, .ref (3 + 3 * t3)), (3, .int x3), (4, .int r6), (5, .int 0)]) [2, 3, 4, 5, 1, 0] rfl ?_
      obtain ⟨f9, h⟩ := h
      refine swX0_fillScan_42 hS ht3 ?_ f9 _ _ _ _ h
      · intro u11 I12 h
        obtain ⟨v13, e_v13⟩ : ∃ z : Int32, z = (u11 + 1) := ⟨_, rfl⟩
        replace h := h v13 e_v13
        refine V_iinc (lo2 := [(3, .int v13), (0, .ref 23), (1, .int a1), (2, .ref (3 + 3 * t3))]) 3 dX0_fillScan_73 rfl (v := v13) (by rw [e_v13]; first | done | rfl) (by decide) rfl ?_
        refine V_goto 24 dX0_fillScan_76 rfl ?_
        refine V_sub (lo2 := [(0, .ref 23), (1, .int a1), (2, .ref (3 + 3 * t3)), (3, .int v13)]) [1, 2, 3, 0] rfl ?_
        exact ih _ _ h
def wX0_fillScan (a1 : Int32) (I : QI) (post : Int32 → QI → Prop) : Prop := (wX2_firstOf a1 I (fun r1 => (wX4_find r1 I (fun r2 => (r2 = none → post 0 I) ∧ (∀ t3 : Nat, t3 < 4 → r2 = some t3 → (∃ f : Nat, wX0_fillScan_24 a1 t3 post f 0 I))))))
set_option maxRecDepth 100000 in
set_option maxHeartbeats 4000000 in
theorem s_mX0_fillScan {X : QX} {S : QS} {a1 : Int32} {I : QI} {J : QJ} {post : Int32 → QI → Prop} (hS : Sh S) (h : wX0_fillScan a1 I post) : CX X mX0_fillScan 1 0 0 [.ref 23, .int a1] S I J (q_Pi S (fun r I2 J2 => J = J2 ∧ post r I2)) := by
  refine CX.of (lo := [(0, .ref 23), (1, .int a1)]) ok_mX0_fillScan rfl (Nat.le_of_ble_eq_true rfl) rfl ?_
  replace h : (wX2_firstOf a1 I (fun r1 => (wX4_find r1 I (fun r2 => (r2 = none → post 0 I) ∧ (∀ t3 : Nat, t3 < 4 → r2 = some t3 → (∃ f : Nat, wX0_fillScan_24 a1 t3 post f 0 I)))))) := h
  refine V_aload_n dX0_fillScan_0 rfl rfl ?_
  refine V_getr dX0_fillScan_1 fl_RX0_9 (hS.n 23 rfl) (hS.k 23 0 rfl) rfl (hS.r 23 0 1 rfl) ?_
  refine V_aload_n dX0_fillScan_4 rfl rfl ?_
  refine V_getr dX0_fillScan_5 fl_RX0_15 (hS.n 23 rfl) (hS.k 23 0 rfl) rfl (hS.r 23 1 15 rfl) ?_
  refine V_iload_n dX0_fillScan_8 rfl rfl ?_
  refine V_callVi (st := [.ref 1]) [.int a1] dX0_fillScan_9 ok_mX2_firstOf rfl ml_RX0_85 in_mX2_firstOf se_mX2_firstOf (hS.n 15 rfl) (hS.k 15 2 rfl) (by decide) rfl (Nat.le_of_ble_eq_true rfl) (by decide) (by decide) (by decide) (s_mX2_firstOf hS h) (fun r1 I9 J9 h => ?_)
  obtain ⟨rfl, rfl, h⟩ := h
  refine V_callVt (st := []) [.int r1] dX0_fillScan_12 ok_mX4_find rfl ml_RX0_122 in_mX4_find se_mX4_find (hS.n 1 rfl) (hS.k 1 4 rfl) (by decide) rfl (Nat.le_of_ble_eq_true rfl) (by decide) (by decide) (by decide) (s_mX4_find hS h) (fun I9 J9 h => ?_) (fun t3 I9 J9 ht3 h => ?_)
  · obtain ⟨rfl, rfl, h⟩ := h
    replace h := h.1 rfl
    refine V_astore_nN (lo2 := [(2, .null), (0, .ref 23), (1, .int a1)]) dX0_fillScan_15 rfl (by decide) rfl ?_
    refine V_aload_nN dX0_fillScan_16 rfl rfl ?_
    refine V_ifnonnullN dX0_fillScan_17 ?_
    refine V_iconst (v := 0) dX0_fillScan_20 (by decide) ?_
    exact V_zret dX0_fillScan_21 rfl (by decide) (by decide) (by decide) ⟨_, rfl, rfl, rfl, h⟩
  · obtain ⟨rfl, rfl, h⟩ := h
    replace h := h.2 t3 ht3 rfl
    refine V_astore_n (lo2 := [(2, .ref (3 + 3 * t3)), (0, .ref 23), (1, .int a1)]) dX0_fillScan_15 rfl (by decide) rfl ?_
    refine V_aload_n dX0_fillScan_16 rfl rfl ?_
    refine V_ifnonnull 22 dX0_fillScan_17 rfl ?_
    refine V_iconst (v := 0) dX0_fillScan_22 (by decide) ?_
    refine V_istore_n (lo2 := [(3, .int 0), (2, .ref (3 + 3 * t3)), (0, .ref 23), (1, .int a1)]) dX0_fillScan_23 rfl (by decide) rfl ?_
    refine V_sub (lo2 := [(0, .ref 23), (1, .int a1), (2, .ref (3 + 3 * t3)), (3, .int 0)]) [2, 3, 1, 0] rfl ?_
    obtain ⟨f9, h⟩ := h
    refine swX0_fillScan_24 hS ht3 f9 _ _ h
def wX0_copyPair_41 (a1 : Int32) (a2 : Int32) (a3 : Int32) (K72 : Int32 → Int32 → Int32 → QI → Prop) (post : Int32 → QI → Prop) : Nat → Int32 → Int32 → Int32 → Int32 → Int32 → QI → Prop
  | 0, _, _, _, _, _, _ => False
  | n + 1, x4, x5, x6, x7, x8, I => ((x6 ≤ x8 → (K72 x5 x6 x7 I)) ∧ (¬ x6 ≤ x8 → (wX0_valueAt x4 a2 x8 I (fun r6 => (wX0_put a1 x7 x8 r6 I (fun I7 => (∀ v8 : Int32, v8 = (x8 + 1) → (wX0_copyPair_41 a1 a2 a3 K72 post n x4 x5 x6 x7 v8 I7))))))))
set_option maxRecDepth 100000 in
set_option maxHeartbeats 4000000 in
theorem swX0_copyPair_41 {X : QX} {S : QS} {a1 : Int32} {a2 : Int32} {a3 : Int32} {J : QJ} {K72 : Int32 → Int32 → Int32 → QI → Prop} {post : Int32 → QI → Prop} (hS : Sh S) (hK72 : ∀ (z5 : Int32) (z6 : Int32) (z7 : Int32) (I : QI), K72 z5 z6 z7 I → V X mX0_copyPair 1 0 0 (q_Pi S (fun r I2 J2 => J = J2 ∧ post r I2)) 72 [(0, .ref 23), (1, .int a1), (3, .int a3), (5, .int z5), (6, .int z6), (7, .int z7)] [] S I J 0 0) : ∀ (f : Nat) (x4 : Int32) (x5 : Int32) (x6 : Int32) (x7 : Int32) (x8 : Int32) (I : QI), wX0_copyPair_41 a1 a2 a3 K72 post f x4 x5 x6 x7 x8 I → V X mX0_copyPair 1 0 0 (q_Pi S (fun r I2 J2 => J = J2 ∧ post r I2)) 41 [(0, .ref 23), (1, .int a1), (2, .int a2), (3, .int a3), (4, .int x4), (5, .int x5), (6, .int x6), (7, .int x7), (8, .int x8)] [] S I J 0 0 := by
  intro f
  induction f with
  | zero => intro x4 x5 x6 x7 x8 I h; exact h.elim
  | succ n ih =>
    intro x4 x5 x6 x7 x8 I h
    replace h : ((x6 ≤ x8 → (K72 x5 x6 x7 I)) ∧ (¬ x6 ≤ x8 → (wX0_valueAt x4 a2 x8 I (fun r6 => (wX0_put a1 x7 x8 r6 I (fun I7 => (∀ v8 : Int32, v8 = (x8 + 1) → (wX0_copyPair_41 a1 a2 a3 K72 post n x4 x5 x6 x7 v8 I7)))))))) := h
    refine V_iload dX0_copyPair_41 rfl ?_
    refine V_iload dX0_copyPair_43 rfl ?_
    refine V_icmp_ge 72 dX0_copyPair_45 rfl (fun hc => ?_) (fun hc => ?_)
    · replace h := h.1 hc
      refine V_sub (lo2 := [(0, .ref 23), (1, .int a1), (3, .int a3), (5, .int x5), (6, .int x6), (7, .int x7)]) [0, 1, 3, 5, 6, 7] rfl ?_
      exact hK72 _ _ _ _ h
    · replace h := h.2 hc
      refine V_aload_n dX0_copyPair_48 rfl rfl ?_
      refine V_iload_n dX0_copyPair_49 rfl rfl ?_
      refine V_iload dX0_copyPair_50 rfl ?_
      refine V_iload dX0_copyPair_52 rfl ?_
      refine V_aload_n dX0_copyPair_54 rfl rfl ?_
      refine V_iload dX0_copyPair_55 rfl ?_
      refine V_iload_n dX0_copyPair_57 rfl rfl ?_
      refine V_iload dX0_copyPair_58 rfl ?_
      refine V_callVi (st := [.int x8, .int x7, .int a1, .ref 23]) [.int x4, .int a2, .int x8] dX0_copyPair_60 ok_mX0_valueAt rfl ml_RX0_147 in_mX0_valueAt se_mX0_valueAt (hS.n 23 rfl) (hS.k 23 0 rfl) (by decide) rfl (Nat.le_of_ble_eq_true rfl) (by decide) (by decide) (by decide) (s_mX0_valueAt hS h) (fun r6 I9 J9 h => ?_)
      obtain ⟨rfl, rfl, h⟩ := h
      refine V_callVv (st := []) [.int a1, .int x7, .int x8, .int r6] dX0_copyPair_63 ok_mX0_put rfl ml_RX0_140 in_mX0_put se_mX0_put (hS.n 23 rfl) (hS.k 23 0 rfl) (by decide) rfl (Nat.le_of_ble_eq_true rfl) (by decide) (by decide) (by decide) (s_mX0_put hS h) (fun I7 J9 h => ?_)
      obtain ⟨rfl, h⟩ := h
      obtain ⟨v8, e_v8⟩ : ∃ z : Int32, z = (x8 + 1) := ⟨_, rfl⟩
      replace h := h v8 e_v8
      refine V_iinc (lo2 := [(8, .int v8), (0, .ref 23), (1, .int a1), (2, .int a2), (3, .int a3), (4, .int x4), (5, .int x5), (6, .int x6), (7, .int x7)]) 8 dX0_copyPair_66 rfl (v := v8) (by rw [e_v8]; first | done | rfl) (by decide) rfl ?_
      refine V_goto 41 dX0_copyPair_69 rfl ?_
      refine V_sub (lo2 := [(0, .ref 23), (1, .int a1), (2, .int a2), (3, .int a3), (4, .int x4), (5, .int x5), (6, .int x6), (7, .int x7), (8, .int v8)]) [1, 2, 3, 4, 5, 6, 7, 8, 0] rfl ?_
      exact ih _ _ _ _ _ _ h
def wX0_copyPair_75 (a1 : Int32) (a2 : Int32) (a3 : Int32) (K127 : Int32 → QI → Prop) (post : Int32 → QI → Prop) : Nat → Int32 → Int32 → Int32 → Int32 → QI → Prop
  | 0, _, _, _, _, _ => False
  | n + 1, x5, x6, x7, x8, I => (wX2_widthOf x5 I (fun r13 => ((r13 ≤ x8 → (K127 x7 I)) ∧ (¬ r13 ≤ x8 → ((¬ a3 = (-1) → (wX0_valueAt x5 a3 x8 I (fun r14 => (wX0_put a1 x7 (x6 + x8) r14 I (fun I15 => (∀ v16 : Int32, v16 = (x8 + 1) → (wX0_copyPair_75 a1 a2 a3 K127 post n x5 x6 x7 v16 I15))))))) ∧ (a3 = (-1) → (wX0_put a1 x7 (x6 + x8) (-1000) I (fun I17 => (∀ v18 : Int32, v18 = (x8 + 1) → (wX0_copyPair_75 a1 a2 a3 K127 post n x5 x6 x7 v18 I17))))))))))
set_option maxRecDepth 100000 in
set_option maxHeartbeats 4000000 in
theorem swX0_copyPair_75 {X : QX} {S : QS} {a1 : Int32} {a2 : Int32} {a3 : Int32} {J : QJ} {K127 : Int32 → QI → Prop} {post : Int32 → QI → Prop} (hS : Sh S) (hK127 : ∀ (z7 : Int32) (I : QI), K127 z7 I → V X mX0_copyPair 1 0 0 (q_Pi S (fun r I2 J2 => J = J2 ∧ post r I2)) 127 [(7, .int z7)] [] S I J 0 0) : ∀ (f : Nat) (x5 : Int32) (x6 : Int32) (x7 : Int32) (x8 : Int32) (I : QI), wX0_copyPair_75 a1 a2 a3 K127 post f x5 x6 x7 x8 I → V X mX0_copyPair 1 0 0 (q_Pi S (fun r I2 J2 => J = J2 ∧ post r I2)) 75 [(0, .ref 23), (1, .int a1), (3, .int a3), (5, .int x5), (6, .int x6), (7, .int x7), (8, .int x8)] [] S I J 0 0 := by
  intro f
  induction f with
  | zero => intro x5 x6 x7 x8 I h; exact h.elim
  | succ n ih =>
    intro x5 x6 x7 x8 I h
    replace h : (wX2_widthOf x5 I (fun r13 => ((r13 ≤ x8 → (K127 x7 I)) ∧ (¬ r13 ≤ x8 → ((¬ a3 = (-1) → (wX0_valueAt x5 a3 x8 I (fun r14 => (wX0_put a1 x7 (x6 + x8) r14 I (fun I15 => (∀ v16 : Int32, v16 = (x8 + 1) → (wX0_copyPair_75 a1 a2 a3 K127 post n x5 x6 x7 v16 I15))))))) ∧ (a3 = (-1) → (wX0_put a1 x7 (x6 + x8) (-1000) I (fun I17 => (∀ v18 : Int32, v18 = (x8 + 1) → (wX0_copyPair_75 a1 a2 a3 K127 post n x5 x6 x7 v18 I17)))))))))) := h
    refine V_iload dX0_copyPair_75 rfl ?_
    refine V_aload_n dX0_copyPair_77 rfl rfl ?_
    refine V_getr dX0_copyPair_78 fl_RX0_15 (hS.n 23 rfl) (hS.k 23 0 rfl) rfl (hS.r 23 1 15 rfl) ?_
    refine V_iload dX0_copyPair_81 rfl ?_
    refine V_callVi (st := [.int x8]) [.int x5] dX0_copyPair_83 ok_mX2_widthOf rfl ml_RX0_72 in_mX2_widthOf se_mX2_widthOf (hS.n 15 rfl) (hS.k 15 2 rfl) (by decide) rfl (Nat.le_of_ble_eq_true rfl) (by decide) (by decide) (by decide) (s_mX2_widthOf hS h) (fun r13 I9 J9 h => ?_)
    obtain ⟨rfl, rfl, h⟩ := h
    refine V_icmp_ge 127 dX0_copyPair_86 rfl (fun hc => ?_) (fun hc => ?_)
    · replace h := h.1 hc
      refine V_sub (lo2 := [(7, .int x7)]) [5] rfl ?_
      exact hK127 _ _ h
    · replace h := h.2 hc
      refine V_aload_n dX0_copyPair_89 rfl rfl ?_
      refine V_iload_n dX0_copyPair_90 rfl rfl ?_
      refine V_iload dX0_copyPair_91 rfl ?_
      refine V_iload dX0_copyPair_93 rfl ?_
      refine V_iload dX0_copyPair_95 rfl ?_
      refine V_iadd dX0_copyPair_97 ?_
      refine V_iload_n dX0_copyPair_98 rfl rfl ?_
      refine V_iconst (v := (-1)) dX0_copyPair_99 (by decide) ?_
      refine V_icmp_ne 109 dX0_copyPair_100 rfl (fun hc => ?_) (fun hc => ?_)
      · replace h := h.1 hc
        refine V_aload_n dX0_copyPair_109 rfl rfl ?_
        refine V_iload dX0_copyPair_110 rfl ?_
        refine V_iload_n dX0_copyPair_112 rfl rfl ?_
        refine V_iload dX0_copyPair_113 rfl ?_
        refine V_callVi (st := [.int (x6 + x8), .int x7, .int a1, .ref 23]) [.int x5, .int a3, .int x8] dX0_copyPair_115 ok_mX0_valueAt rfl ml_RX0_147 in_mX0_valueAt se_mX0_valueAt (hS.n 23 rfl) (hS.k 23 0 rfl) (by decide) rfl (Nat.le_of_ble_eq_true rfl) (by decide) (by decide) (by decide) (s_mX0_valueAt hS h) (fun r14 I9 J9 h => ?_)
        obtain ⟨rfl, rfl, h⟩ := h
        refine V_callVv (st := []) [.int a1, .int x7, .int (x6 + x8), .int r14] dX0_copyPair_118 ok_mX0_put rfl ml_RX0_140 in_mX0_put se_mX0_put (hS.n 23 rfl) (hS.k 23 0 rfl) (by decide) rfl (Nat.le_of_ble_eq_true rfl) (by decide) (by decide) (by decide) (s_mX0_put hS h) (fun I15 J9 h => ?_)
        obtain ⟨rfl, h⟩ := h
        obtain ⟨v16, e_v16⟩ : ∃ z : Int32, z = (x8 + 1) := ⟨_, rfl⟩
        replace h := h v16 e_v16
        refine V_iinc (lo2 := [(8, .int v16), (0, .ref 23), (1, .int a1), (3, .int a3), (5, .int x5), (6, .int x6), (7, .int x7)]) 6 dX0_copyPair_121 rfl (v := v16) (by rw [e_v16]; first | done | rfl) (by decide) rfl ?_
        refine V_goto 75 dX0_copyPair_124 rfl ?_
        refine V_sub (lo2 := [(0, .ref 23), (1, .int a1), (3, .int a3), (5, .int x5), (6, .int x6), (7, .int x7), (8, .int v16)]) [1, 2, 3, 4, 5, 6, 0] rfl ?_
        exact ih _ _ _ _ _ h
      · replace h := h.2 hc
        refine V_sipush (v := (-1000)) dX0_copyPair_103 (by decide) ?_
        refine V_goto 118 dX0_copyPair_106 rfl ?_
        refine V_callVv (st := []) [.int a1, .int x7, .int (x6 + x8), .int (-1000)] dX0_copyPair_118 ok_mX0_put rfl ml_RX0_140 in_mX0_put se_mX0_put (hS.n 23 rfl) (hS.k 23 0 rfl) (by decide) rfl (Nat.le_of_ble_eq_true rfl) (by decide) (by decide) (by decide) (s_mX0_put hS h) (fun I17 J9 h => ?_)
        obtain ⟨rfl, h⟩ := h
        obtain ⟨v18, e_v18⟩ : ∃ z : Int32, z = (x8 + 1) := ⟨_, rfl⟩
        replace h := h v18 e_v18
        refine V_iinc (lo2 := [(8, .int v18), (0, .ref 23), (1, .int a1), (3, .int a3), (5, .int x5), (6, .int x6), (7, .int x7)]) 6 dX0_copyPair_121 rfl (v := v18) (by rw [e_v18]; first | done | rfl) (by decide) rfl ?_
        refine V_goto 75 dX0_copyPair_124 rfl ?_
        refine V_sub (lo2 := [(0, .ref 23), (1, .int a1), (3, .int a3), (5, .int x5), (6, .int x6), (7, .int x7), (8, .int v18)]) [1, 2, 3, 4, 5, 6, 0] rfl ?_
        exact ih _ _ _ _ _ h
def wX0_copyPair (a1 : Int32) (a2 : Int32) (a3 : Int32) (I : QI) (post : Int32 → QI → Prop) : Prop := (wX2_firstOf a1 I (fun r1 => (wX2_secondOf a1 I (fun r2 => (wX2_widthOf r1 I (fun r3 => (wX0_newRow a1 I (fun r5 I4 => (∃ f : Nat, wX0_copyPair_41 a1 a2 a3 (fun u9 u10 u11 I12 => (∃ f : Nat, wX0_copyPair_75 a1 a2 a3 (fun u19 I20 => ((u19 = (-1) → post 0 I20) ∧ (¬ u19 = (-1) → post 1 I20))) post f u9 u10 u11 0 I12)) post f r1 r2 r3 r5 0 I4)))))))))
set_option maxRecDepth 100000 in
set_option maxHeartbeats 4000000 in
theorem s_mX0_copyPair {X : QX} {S : QS} {a1 : Int32} {a2 : Int32} {a3 : Int32} {I : QI} {J : QJ} {post : Int32 → QI → Prop} (hS : Sh S) (h : wX0_copyPair a1 a2 a3 I post) : CX X mX0_copyPair 1 0 0 [.ref 23, .int a1, .int a2, .int a3] S I J (q_Pi S (fun r I2 J2 => J = J2 ∧ post r I2)) := by
  refine CX.of (lo := [(0, .ref 23), (1, .int a1), (2, .int a2), (3, .int a3)]) ok_mX0_copyPair rfl (Nat.le_of_ble_eq_true rfl) rfl ?_
  replace h : (wX2_firstOf a1 I (fun r1 => (wX2_secondOf a1 I (fun r2 => (wX2_widthOf r1 I (fun r3 => (wX0_newRow a1 I (fun r5 I4 => (∃ f : Nat, wX0_copyPair_41 a1 a2 a3 (fun u9 u10 u11 I12 => (∃ f : Nat, wX0_copyPair_75 a1 a2 a3 (fun u19 I20 => ((u19 = (-1) → post 0 I20) ∧ (¬ u19 = (-1) → post 1 I20))) post f u9 u10 u11 0 I12)) post f r1 r2 r3 r5 0 I4))))))))) := h
  refine V_aload_n dX0_copyPair_0 rfl rfl ?_
  refine V_getr dX0_copyPair_1 fl_RX0_15 (hS.n 23 rfl) (hS.k 23 0 rfl) rfl (hS.r 23 1 15 rfl) ?_
  refine V_iload_n dX0_copyPair_4 rfl rfl ?_
  refine V_callVi (st := []) [.int a1] dX0_copyPair_5 ok_mX2_firstOf rfl ml_RX0_85 in_mX2_firstOf se_mX2_firstOf (hS.n 15 rfl) (hS.k 15 2 rfl) (by decide) rfl (Nat.le_of_ble_eq_true rfl) (by decide) (by decide) (by decide) (s_mX2_firstOf hS h) (fun r1 I9 J9 h => ?_)
  obtain ⟨rfl, rfl, h⟩ := h
  refine V_istore (lo2 := [(4, .int r1), (0, .ref 23), (1, .int a1), (2, .int a2), (3, .int a3)]) dX0_copyPair_8 (by decide) rfl ?_
  refine V_aload_n dX0_copyPair_10 rfl rfl ?_
  refine V_getr dX0_copyPair_11 fl_RX0_15 (hS.n 23 rfl) (hS.k 23 0 rfl) rfl (hS.r 23 1 15 rfl) ?_
  refine V_iload_n dX0_copyPair_14 rfl rfl ?_
  refine V_callVi (st := []) [.int a1] dX0_copyPair_15 ok_mX2_secondOf rfl ml_RX0_91 in_mX2_secondOf se_mX2_secondOf (hS.n 15 rfl) (hS.k 15 2 rfl) (by decide) rfl (Nat.le_of_ble_eq_true rfl) (by decide) (by decide) (by decide) (s_mX2_secondOf hS h) (fun r2 I9 J9 h => ?_)
  obtain ⟨rfl, rfl, h⟩ := h
  refine V_istore (lo2 := [(5, .int r2), (4, .int r1), (0, .ref 23), (1, .int a1), (2, .int a2), (3, .int a3)]) dX0_copyPair_18 (by decide) rfl ?_
  refine V_aload_n dX0_copyPair_20 rfl rfl ?_
  refine V_getr dX0_copyPair_21 fl_RX0_15 (hS.n 23 rfl) (hS.k 23 0 rfl) rfl (hS.r 23 1 15 rfl) ?_
  refine V_iload dX0_copyPair_24 rfl ?_
  refine V_callVi (st := []) [.int r1] dX0_copyPair_26 ok_mX2_widthOf rfl ml_RX0_72 in_mX2_widthOf se_mX2_widthOf (hS.n 15 rfl) (hS.k 15 2 rfl) (by decide) rfl (Nat.le_of_ble_eq_true rfl) (by decide) (by decide) (by decide) (s_mX2_widthOf hS h) (fun r3 I9 J9 h => ?_)
  obtain ⟨rfl, rfl, h⟩ := h
  refine V_istore (lo2 := [(6, .int r3), (5, .int r2), (4, .int r1), (0, .ref 23), (1, .int a1), (2, .int a2), (3, .int a3)]) dX0_copyPair_29 (by decide) rfl ?_
  refine V_aload_n dX0_copyPair_31 rfl rfl ?_
  refine V_iload_n dX0_copyPair_32 rfl rfl ?_
  refine V_callVi (st := []) [.int a1] dX0_copyPair_33 ok_mX0_newRow rfl ml_RX0_131 in_mX0_newRow se_mX0_newRow (hS.n 23 rfl) (hS.k 23 0 rfl) (by decide) rfl (Nat.le_of_ble_eq_true rfl) (by decide) (by decide) (by decide) (s_mX0_newRow hS h) (fun r5 I4 J9 h => ?_)
  obtain ⟨rfl, h⟩ := h
  refine V_istore (lo2 := [(7, .int r5), (6, .int r3), (5, .int r2), (4, .int r1), (0, .ref 23), (1, .int a1), (2, .int a2), (3, .int a3)]) dX0_copyPair_36 (by decide) rfl ?_
  refine V_iconst (v := 0) dX0_copyPair_38 (by decide) ?_
  refine V_istore (lo2 := [(8, .int 0), (7, .int r5), (6, .int r3), (5, .int r2), (4, .int r1), (0, .ref 23), (1, .int a1), (2, .int a2), (3, .int a3)]) dX0_copyPair_39 (by decide) rfl ?_
  refine V_sub (lo2 := [(0, .ref 23), (1, .int a1), (2, .int a2), (3, .int a3), (4, .int r1), (5, .int r2), (6, .int r3), (7, .int r5), (8, .int 0)]) [5, 6, 7, 8, 4, 3, 2, 1, 0] rfl ?_
  obtain ⟨f9, h⟩ := h
  refine swX0_copyPair_41 hS ?_ f9 _ _ _ _ _ _ h
  · intro u9 u10 u11 I12 h
    refine V_iconst (v := 0) dX0_copyPair_72 (by decide) ?_
    refine V_istore (lo2 := [(8, .int 0), (0, .ref 23), (1, .int a1), (3, .int a3), (5, .int u9), (6, .int u10), (7, .int u11)]) dX0_copyPair_73 (by decide) rfl ?_
    refine V_sub (lo2 := [(0, .ref 23), (1, .int a1), (3, .int a3), (5, .int u9), (6, .int u10), (7, .int u11), (8, .int 0)]) [1, 2, 3, 4, 5, 6, 0] rfl ?_
    obtain ⟨f9, h⟩ := h
    refine swX0_copyPair_75 hS ?_ f9 _ _ _ _ _ h
    · intro u19 I20 h
      refine V_iload dX0_copyPair_127 rfl ?_
      refine V_iconst (v := (-1)) dX0_copyPair_129 (by decide) ?_
      refine V_icmp_eq 137 dX0_copyPair_130 rfl (fun hc => ?_) (fun hc => ?_)
      · replace h := h.1 hc
        refine V_iconst (v := 0) dX0_copyPair_137 (by decide) ?_
        exact V_zret dX0_copyPair_138 rfl (by decide) (by decide) (by decide) ⟨_, rfl, rfl, rfl, h⟩
      · replace h := h.2 hc
        refine V_iconst (v := 1) dX0_copyPair_133 (by decide) ?_
        refine V_goto 138 dX0_copyPair_134 rfl ?_
        exact V_zret dX0_copyPair_138 rfl (by decide) (by decide) (by decide) ⟨_, rfl, rfl, rfl, h⟩
def wX0_pairUp_67 (a1 : Int32) (a2 : Int32) (K110 : Int32 → QI → Prop) (post : Int32 → QI → Prop) : Nat → Int32 → Int32 → Int32 → Int32 → Int32 → Int32 → QI → Prop
  | 0, _, _, _, _, _, _, _ => False
  | n + 1, x3, x4, x5, x6, x7, x8, I => ((x6 ≤ x8 → (K110 x7 I)) ∧ (¬ x6 ≤ x8 → (wX0_valueAt x3 x8 x4 I (fun r7 => ((¬ r7 = x5 → (∀ v8 : Int32, v8 = (x8 + 1) → (wX0_pairUp_67 a1 a2 K110 post n x3 x4 x5 x6 x7 v8 I))) ∧ (r7 = x5 → (wX0_copyPair a1 a2 x8 I (fun r10 I9 => ((¬ r10 = 0 → (∀ v11 : Int32, v11 = (x8 + 1) → (wX0_pairUp_67 a1 a2 K110 post n x3 x4 x5 x6 1 v11 I9))) ∧ (r10 = 0 → post 0 I9))))))))))
set_option maxRecDepth 100000 in
set_option maxHeartbeats 4000000 in
theorem swX0_pairUp_67 {X : QX} {S : QS} {a1 : Int32} {a2 : Int32} {J : QJ} {K110 : Int32 → QI → Prop} {post : Int32 → QI → Prop} (hS : Sh S) (hK110 : ∀ (z7 : Int32) (I : QI), K110 z7 I → V X mX0_pairUp 2 0 0 (q_Pi S (fun r I2 J2 => J = J2 ∧ post r I2)) 110 [(0, .ref 23), (1, .int a1), (2, .int a2), (7, .int z7)] [] S I J 0 0) : ∀ (f : Nat) (x3 : Int32) (x4 : Int32) (x5 : Int32) (x6 : Int32) (x7 : Int32) (x8 : Int32) (I : QI), wX0_pairUp_67 a1 a2 K110 post f x3 x4 x5 x6 x7 x8 I → V X mX0_pairUp 2 0 0 (q_Pi S (fun r I2 J2 => J = J2 ∧ post r I2)) 67 [(0, .ref 23), (1, .int a1), (2, .int a2), (3, .int x3), (4, .int x4), (5, .int x5), (6, .int x6), (7, .int x7), (8, .int x8)] [] S I J 0 0 := by
  intro f
  induction f with
  | zero => intro x3 x4 x5 x6 x7 x8 I h; exact h.elim
  | succ n ih =>
    intro x3 x4 x5 x6 x7 x8 I h
    replace h : ((x6 ≤ x8 → (K110 x7 I)) ∧ (¬ x6 ≤ x8 → (wX0_valueAt x3 x8 x4 I (fun r7 => ((¬ r7 = x5 → (∀ v8 : Int32, v8 = (x8 + 1) → (wX0_pairUp_67 a1 a2 K110 post n x3 x4 x5 x6 x7 v8 I))) ∧ (r7 = x5 → (wX0_copyPair a1 a2 x8 I (fun r10 I9 => ((¬ r10 = 0 → (∀ v11 : Int32, v11 = (x8 + 1) → (wX0_pairUp_67 a1 a2 K110 post n x3 x4 x5 x6 1 v11 I9))) ∧ (r10 = 0 → post 0 I9)))))))))) := h
    refine V_iload dX0_pairUp_67 rfl ?_
    refine V_iload dX0_pairUp_69 rfl ?_
    refine V_icmp_ge 110 dX0_pairUp_71 rfl (fun hc => ?_) (fun hc => ?_)
    · replace h := h.1 hc
      refine V_sub (lo2 := [(0, .ref 23), (1, .int a1), (2, .int a2), (7, .int x7)]) [0, 1, 2, 7] rfl ?_
      exact hK110 _ _ h
    · replace h := h.2 hc
      refine V_aload_n dX0_pairUp_74 rfl rfl ?_
      refine V_iload_n dX0_pairUp_75 rfl rfl ?_
      refine V_iload dX0_pairUp_76 rfl ?_
      refine V_iload dX0_pairUp_78 rfl ?_
      refine V_callVi (st := []) [.int x3, .int x8, .int x4] dX0_pairUp_80 ok_mX0_valueAt rfl ml_RX0_147 in_mX0_valueAt se_mX0_valueAt (hS.n 23 rfl) (hS.k 23 0 rfl) (by decide) rfl (Nat.le_of_ble_eq_true rfl) (by decide) (by decide) (by decide) (s_mX0_valueAt hS h) (fun r7 I9 J9 h => ?_)
      obtain ⟨rfl, rfl, h⟩ := h
      refine V_iload dX0_pairUp_83 rfl ?_
      refine V_icmp_ne 104 dX0_pairUp_85 rfl (fun hc => ?_) (fun hc => ?_)
      · replace h := h.1 hc
        obtain ⟨v8, e_v8⟩ : ∃ z : Int32, z = (x8 + 1) := ⟨_, rfl⟩
        replace h := h v8 e_v8
        refine V_iinc (lo2 := [(8, .int v8), (0, .ref 23), (1, .int a1), (2, .int a2), (3, .int x3), (4, .int x4), (5, .int x5), (6, .int x6), (7, .int x7)]) 8 dX0_pairUp_104 rfl (v := v8) (by rw [e_v8]; first | done | rfl) (by decide) rfl ?_
        refine V_goto 67 dX0_pairUp_107 rfl ?_
        refine V_sub (lo2 := [(0, .ref 23), (1, .int a1), (2, .int a2), (3, .int x3), (4, .int x4), (5, .int x5), (6, .int x6), (7, .int x7), (8, .int v8)]) [1, 2, 3, 4, 5, 6, 7, 8, 0] rfl ?_
        exact ih _ _ _ _ _ _ _ h
      · replace h := h.2 hc
        refine V_iconst (v := 1) dX0_pairUp_88 (by decide) ?_
        refine V_istore (lo2 := [(7, .int 1), (0, .ref 23), (1, .int a1), (2, .int a2), (3, .int x3), (4, .int x4), (5, .int x5), (6, .int x6), (8, .int x8)]) dX0_pairUp_89 (by decide) rfl ?_
        refine V_aload_n dX0_pairUp_91 rfl rfl ?_
        refine V_iload_n dX0_pairUp_92 rfl rfl ?_
        refine V_iload_n dX0_pairUp_93 rfl rfl ?_
        refine V_iload dX0_pairUp_94 rfl ?_
        refine V_callVi (st := []) [.int a1, .int a2, .int x8] dX0_pairUp_96 ok_mX0_copyPair rfl ml_RX0_164 in_mX0_copyPair se_mX0_copyPair (hS.n 23 rfl) (hS.k 23 0 rfl) (by decide) rfl (Nat.le_of_ble_eq_true rfl) (by decide) (by decide) (by decide) (s_mX0_copyPair hS h) (fun r10 I9 J9 h => ?_)
        obtain ⟨rfl, h⟩ := h
        refine V_if_ne 104 dX0_pairUp_99 rfl (fun hc => ?_) (fun hc => ?_)
        · replace h := h.1 hc
          obtain ⟨v11, e_v11⟩ : ∃ z : Int32, z = (x8 + 1) := ⟨_, rfl⟩
          replace h := h v11 e_v11
          refine V_iinc (lo2 := [(8, .int v11), (7, .int 1), (0, .ref 23), (1, .int a1), (2, .int a2), (3, .int x3), (4, .int x4), (5, .int x5), (6, .int x6)]) 8 dX0_pairUp_104 rfl (v := v11) (by rw [e_v11]; first | done | rfl) (by decide) rfl ?_
          refine V_goto 67 dX0_pairUp_107 rfl ?_
          refine V_sub (lo2 := [(0, .ref 23), (1, .int a1), (2, .int a2), (3, .int x3), (4, .int x4), (5, .int x5), (6, .int x6), (7, .int 1), (8, .int v11)]) [2, 3, 4, 5, 6, 7, 8, 1, 0] rfl ?_
          exact ih _ _ _ _ _ _ _ h
        · replace h := h.2 hc
          refine V_iconst (v := 0) dX0_pairUp_102 (by decide) ?_
          exact V_zret dX0_pairUp_103 rfl (by decide) (by decide) (by decide) ⟨_, rfl, rfl, rfl, h⟩
def wX0_pairUp (a1 : Int32) (a2 : Int32) (I : QI) (post : Int32 → QI → Prop) : Prop := (wX2_secondOf a1 I (fun r1 => (wX2_extraOf a1 I (fun r2 => (wX2_firstOf a1 I (fun r3 => (wX2_columnOf a1 I (fun r4 => (wX0_valueAt r3 a2 r4 I (fun r5 => ((¬ r5 = (-1000) → (wX0_countOf r1 I (fun r6 => (∃ f : Nat, wX0_pairUp_67 a1 a2 (fun u12 I13 => ((¬ u12 = 0 → post 1 I13) ∧ (u12 = 0 → (wX2_kindOf a1 I13 (fun r14 => ((r14 = 0 → post 1 I13) ∧ (¬ r14 = 0 → (wX0_copyPair a1 a2 (-1) I13 (fun r16 I15 => ((r16 = 0 → post 0 I15) ∧ (¬ r16 = 0 → post 1 I15))))))))))) post f r1 r2 r5 r6 0 0 I)))) ∧ (r5 = (-1000) → (∃ f : Nat, wX0_pairUp_67 a1 a2 (fun u17 I18 => ((¬ u17 = 0 → post 1 I18) ∧ (u17 = 0 → (wX2_kindOf a1 I18 (fun r19 => ((r19 = 0 → post 1 I18) ∧ (¬ r19 = 0 → (wX0_copyPair a1 a2 (-1) I18 (fun r21 I20 => ((r21 = 0 → post 0 I20) ∧ (¬ r21 = 0 → post 1 I20))))))))))) post f r1 r2 r5 0 0 0 I)))))))))))))
set_option maxRecDepth 100000 in
set_option maxHeartbeats 4000000 in
theorem s_mX0_pairUp {X : QX} {S : QS} {a1 : Int32} {a2 : Int32} {I : QI} {J : QJ} {post : Int32 → QI → Prop} (hS : Sh S) (h : wX0_pairUp a1 a2 I post) : CX X mX0_pairUp 2 0 0 [.ref 23, .int a1, .int a2] S I J (q_Pi S (fun r I2 J2 => J = J2 ∧ post r I2)) := by
  refine CX.of (lo := [(0, .ref 23), (1, .int a1), (2, .int a2)]) ok_mX0_pairUp rfl (Nat.le_of_ble_eq_true rfl) rfl ?_
  replace h : (wX2_secondOf a1 I (fun r1 => (wX2_extraOf a1 I (fun r2 => (wX2_firstOf a1 I (fun r3 => (wX2_columnOf a1 I (fun r4 => (wX0_valueAt r3 a2 r4 I (fun r5 => ((¬ r5 = (-1000) → (wX0_countOf r1 I (fun r6 => (∃ f : Nat, wX0_pairUp_67 a1 a2 (fun u12 I13 => ((¬ u12 = 0 → post 1 I13) ∧ (u12 = 0 → (wX2_kindOf a1 I13 (fun r14 => ((r14 = 0 → post 1 I13) ∧ (¬ r14 = 0 → (wX0_copyPair a1 a2 (-1) I13 (fun r16 I15 => ((r16 = 0 → post 0 I15) ∧ (¬ r16 = 0 → post 1 I15))))))))))) post f r1 r2 r5 r6 0 0 I)))) ∧ (r5 = (-1000) → (∃ f : Nat, wX0_pairUp_67 a1 a2 (fun u17 I18 => ((¬ u17 = 0 → post 1 I18) ∧ (u17 = 0 → (wX2_kindOf a1 I18 (fun r19 => ((r19 = 0 → post 1 I18) ∧ (¬ r19 = 0 → (wX0_copyPair a1 a2 (-1) I18 (fun r21 I20 => ((r21 = 0 → post 0 I20) ∧ (¬ r21 = 0 → post 1 I20))))))))))) post f r1 r2 r5 0 0 0 I))))))))))))) := h
  refine V_aload_n dX0_pairUp_0 rfl rfl ?_
  refine V_getr dX0_pairUp_1 fl_RX0_15 (hS.n 23 rfl) (hS.k 23 0 rfl) rfl (hS.r 23 1 15 rfl) ?_
  refine V_iload_n dX0_pairUp_4 rfl rfl ?_
  refine V_callVi (st := []) [.int a1] dX0_pairUp_5 ok_mX2_secondOf rfl ml_RX0_91 in_mX2_secondOf se_mX2_secondOf (hS.n 15 rfl) (hS.k 15 2 rfl) (by decide) rfl (Nat.le_of_ble_eq_true rfl) (by decide) (by decide) (by decide) (s_mX2_secondOf hS h) (fun r1 I9 J9 h => ?_)
  obtain ⟨rfl, rfl, h⟩ := h
  refine V_istore_n (lo2 := [(3, .int r1), (0, .ref 23), (1, .int a1), (2, .int a2)]) dX0_pairUp_8 rfl (by decide) rfl ?_
  refine V_aload_n dX0_pairUp_9 rfl rfl ?_
  refine V_getr dX0_pairUp_10 fl_RX0_15 (hS.n 23 rfl) (hS.k 23 0 rfl) rfl (hS.r 23 1 15 rfl) ?_
  refine V_iload_n dX0_pairUp_13 rfl rfl ?_
  refine V_callVi (st := []) [.int a1] dX0_pairUp_14 ok_mX2_extraOf rfl ml_RX0_151 in_mX2_extraOf se_mX2_extraOf (hS.n 15 rfl) (hS.k 15 2 rfl) (by decide) rfl (Nat.le_of_ble_eq_true rfl) (by decide) (by decide) (by decide) (s_mX2_extraOf hS h) (fun r2 I9 J9 h => ?_)
  obtain ⟨rfl, rfl, h⟩ := h
  refine V_istore (lo2 := [(4, .int r2), (3, .int r1), (0, .ref 23), (1, .int a1), (2, .int a2)]) dX0_pairUp_17 (by decide) rfl ?_
  refine V_aload_n dX0_pairUp_19 rfl rfl ?_
  refine V_aload_n dX0_pairUp_20 rfl rfl ?_
  refine V_getr dX0_pairUp_21 fl_RX0_15 (hS.n 23 rfl) (hS.k 23 0 rfl) rfl (hS.r 23 1 15 rfl) ?_
  refine V_iload_n dX0_pairUp_24 rfl rfl ?_
  refine V_callVi (st := [.ref 23]) [.int a1] dX0_pairUp_25 ok_mX2_firstOf rfl ml_RX0_85 in_mX2_firstOf se_mX2_firstOf (hS.n 15 rfl) (hS.k 15 2 rfl) (by decide) rfl (Nat.le_of_ble_eq_true rfl) (by decide) (by decide) (by decide) (s_mX2_firstOf hS h) (fun r3 I9 J9 h => ?_)
  obtain ⟨rfl, rfl, h⟩ := h
  refine V_iload_n dX0_pairUp_28 rfl rfl ?_
  refine V_aload_n dX0_pairUp_29 rfl rfl ?_
  refine V_getr dX0_pairUp_30 fl_RX0_15 (hS.n 23 rfl) (hS.k 23 0 rfl) rfl (hS.r 23 1 15 rfl) ?_
  refine V_iload_n dX0_pairUp_33 rfl rfl ?_
  refine V_callVi (st := [.int a2, .int r3, .ref 23]) [.int a1] dX0_pairUp_34 ok_mX2_columnOf rfl ml_RX0_144 in_mX2_columnOf se_mX2_columnOf (hS.n 15 rfl) (hS.k 15 2 rfl) (by decide) rfl (Nat.le_of_ble_eq_true rfl) (by decide) (by decide) (by decide) (s_mX2_columnOf hS h) (fun r4 I9 J9 h => ?_)
  obtain ⟨rfl, rfl, h⟩ := h
  refine V_callVi (st := []) [.int r3, .int a2, .int r4] dX0_pairUp_37 ok_mX0_valueAt rfl ml_RX0_147 in_mX0_valueAt se_mX0_valueAt (hS.n 23 rfl) (hS.k 23 0 rfl) (by decide) rfl (Nat.le_of_ble_eq_true rfl) (by decide) (by decide) (by decide) (s_mX0_valueAt hS h) (fun r5 I9 J9 h => ?_)
  obtain ⟨rfl, rfl, h⟩ := h
  refine V_istore (lo2 := [(5, .int r5), (4, .int r2), (3, .int r1), (0, .ref 23), (1, .int a1), (2, .int a2)]) dX0_pairUp_40 (by decide) rfl ?_
  refine V_iload dX0_pairUp_42 rfl ?_
  refine V_sipush (v := (-1000)) dX0_pairUp_44 (by decide) ?_
  refine V_icmp_ne 54 dX0_pairUp_47 rfl (fun hc => ?_) (fun hc => ?_)
  · replace h := h.1 hc
    refine V_aload_n dX0_pairUp_54 rfl rfl ?_
    refine V_iload_n dX0_pairUp_55 rfl rfl ?_
    refine V_callVi (st := []) [.int r1] dX0_pairUp_56 ok_mX0_countOf rfl ml_RX0_65 in_mX0_countOf se_mX0_countOf (hS.n 23 rfl) (hS.k 23 0 rfl) (by decide) rfl (Nat.le_of_ble_eq_true rfl) (by decide) (by decide) (by decide) (s_mX0_countOf hS h) (fun r6 I9 J9 h => ?_)
    obtain ⟨rfl, rfl, h⟩ := h
    refine V_istore (lo2 := [(6, .int r6), (5, .int r5), (4, .int r2), (3, .int r1), (0, .ref 23), (1, .int a1), (2, .int a2)]) dX0_pairUp_59 (by decide) rfl ?_
    refine V_iconst (v := 0) dX0_pairUp_61 (by decide) ?_
    refine V_istore (lo2 := [(7, .int 0), (6, .int r6), (5, .int r5), (4, .int r2), (3, .int r1), (0, .ref 23), (1, .int a1), (2, .int a2)]) dX0_pairUp_62 (by decide) rfl ?_
    refine V_iconst (v := 0) dX0_pairUp_64 (by decide) ?_
    refine V_istore (lo2 := [(8, .int 0), (7, .int 0), (6, .int r6), (5, .int r5), (4, .int r2), (3, .int r1), (0, .ref 23), (1, .int a1), (2, .int a2)]) dX0_pairUp_65 (by decide) rfl ?_
    refine V_sub (lo2 := [(0, .ref 23), (1, .int a1), (2, .int a2), (3, .int r1), (4, .int r2), (5, .int r5), (6, .int r6), (7, .int 0), (8, .int 0)]) [6, 7, 8, 5, 4, 3, 2, 1, 0] rfl ?_
    obtain ⟨f9, h⟩ := h
    refine swX0_pairUp_67 hS ?_ f9 _ _ _ _ _ _ _ h
    · intro u12 I13 h
      refine V_iload dX0_pairUp_110 rfl ?_
      refine V_if_ne 136 dX0_pairUp_112 rfl (fun hc => ?_) (fun hc => ?_)
      · replace h := h.1 hc
        refine V_iconst (v := 1) dX0_pairUp_136 (by decide) ?_
        refine V_goto 141 dX0_pairUp_137 rfl ?_
        exact V_zret dX0_pairUp_141 rfl (by decide) (by decide) (by decide) ⟨_, rfl, rfl, rfl, h⟩
      · replace h := h.2 hc
        refine V_aload_n dX0_pairUp_115 rfl rfl ?_
        refine V_getr dX0_pairUp_116 fl_RX0_15 (hS.n 23 rfl) (hS.k 23 0 rfl) rfl (hS.r 23 1 15 rfl) ?_
        refine V_iload_n dX0_pairUp_119 rfl rfl ?_
        refine V_callVi (st := []) [.int a1] dX0_pairUp_120 ok_mX2_kindOf rfl ml_RX0_107 in_mX2_kindOf se_mX2_kindOf (hS.n 15 rfl) (hS.k 15 2 rfl) (by decide) rfl (Nat.le_of_ble_eq_true rfl) (by decide) (by decide) (by decide) (s_mX2_kindOf hS h) (fun r14 I9 J9 h => ?_)
        obtain ⟨rfl, rfl, h⟩ := h
        refine V_if_eq 136 dX0_pairUp_123 rfl (fun hc => ?_) (fun hc => ?_)
        · replace h := h.1 hc
          refine V_iconst (v := 1) dX0_pairUp_136 (by decide) ?_
          refine V_goto 141 dX0_pairUp_137 rfl ?_
          exact V_zret dX0_pairUp_141 rfl (by decide) (by decide) (by decide) ⟨_, rfl, rfl, rfl, h⟩
        · replace h := h.2 hc
          refine V_aload_n dX0_pairUp_126 rfl rfl ?_
          refine V_iload_n dX0_pairUp_127 rfl rfl ?_
          refine V_iload_n dX0_pairUp_128 rfl rfl ?_
          refine V_iconst (v := (-1)) dX0_pairUp_129 (by decide) ?_
          refine V_callVi (st := []) [.int a1, .int a2, .int (-1)] dX0_pairUp_130 ok_mX0_copyPair rfl ml_RX0_164 in_mX0_copyPair se_mX0_copyPair (hS.n 23 rfl) (hS.k 23 0 rfl) (by decide) rfl (Nat.le_of_ble_eq_true rfl) (by decide) (by decide) (by decide) (s_mX0_copyPair hS h) (fun r16 I15 J9 h => ?_)
          obtain ⟨rfl, h⟩ := h
          refine V_if_eq 140 dX0_pairUp_133 rfl (fun hc => ?_) (fun hc => ?_)
          · replace h := h.1 hc
            refine V_iconst (v := 0) dX0_pairUp_140 (by decide) ?_
            exact V_zret dX0_pairUp_141 rfl (by decide) (by decide) (by decide) ⟨_, rfl, rfl, rfl, h⟩
          · replace h := h.2 hc
            refine V_iconst (v := 1) dX0_pairUp_136 (by decide) ?_
            refine V_goto 141 dX0_pairUp_137 rfl ?_
            exact V_zret dX0_pairUp_141 rfl (by decide) (by decide) (by decide) ⟨_, rfl, rfl, rfl, h⟩
  · replace h := h.2 hc
    refine V_iconst (v := 0) dX0_pairUp_50 (by decide) ?_
    refine V_goto 59 dX0_pairUp_51 rfl ?_
    refine V_istore (lo2 := [(6, .int 0), (5, .int r5), (4, .int r2), (3, .int r1), (0, .ref 23), (1, .int a1), (2, .int a2)]) dX0_pairUp_59 (by decide) rfl ?_
    refine V_iconst (v := 0) dX0_pairUp_61 (by decide) ?_
    refine V_istore (lo2 := [(7, .int 0), (6, .int 0), (5, .int r5), (4, .int r2), (3, .int r1), (0, .ref 23), (1, .int a1), (2, .int a2)]) dX0_pairUp_62 (by decide) rfl ?_
    refine V_iconst (v := 0) dX0_pairUp_64 (by decide) ?_
    refine V_istore (lo2 := [(8, .int 0), (7, .int 0), (6, .int 0), (5, .int r5), (4, .int r2), (3, .int r1), (0, .ref 23), (1, .int a1), (2, .int a2)]) dX0_pairUp_65 (by decide) rfl ?_
    refine V_sub (lo2 := [(0, .ref 23), (1, .int a1), (2, .int a2), (3, .int r1), (4, .int r2), (5, .int r5), (6, .int 0), (7, .int 0), (8, .int 0)]) [6, 7, 8, 5, 4, 3, 2, 1, 0] rfl ?_
    obtain ⟨f9, h⟩ := h
    refine swX0_pairUp_67 hS ?_ f9 _ _ _ _ _ _ _ h
    · intro u17 I18 h
      refine V_iload dX0_pairUp_110 rfl ?_
      refine V_if_ne 136 dX0_pairUp_112 rfl (fun hc => ?_) (fun hc => ?_)
      · replace h := h.1 hc
        refine V_iconst (v := 1) dX0_pairUp_136 (by decide) ?_
        refine V_goto 141 dX0_pairUp_137 rfl ?_
        exact V_zret dX0_pairUp_141 rfl (by decide) (by decide) (by decide) ⟨_, rfl, rfl, rfl, h⟩
      · replace h := h.2 hc
        refine V_aload_n dX0_pairUp_115 rfl rfl ?_
        refine V_getr dX0_pairUp_116 fl_RX0_15 (hS.n 23 rfl) (hS.k 23 0 rfl) rfl (hS.r 23 1 15 rfl) ?_
        refine V_iload_n dX0_pairUp_119 rfl rfl ?_
        refine V_callVi (st := []) [.int a1] dX0_pairUp_120 ok_mX2_kindOf rfl ml_RX0_107 in_mX2_kindOf se_mX2_kindOf (hS.n 15 rfl) (hS.k 15 2 rfl) (by decide) rfl (Nat.le_of_ble_eq_true rfl) (by decide) (by decide) (by decide) (s_mX2_kindOf hS h) (fun r19 I9 J9 h => ?_)
        obtain ⟨rfl, rfl, h⟩ := h
        refine V_if_eq 136 dX0_pairUp_123 rfl (fun hc => ?_) (fun hc => ?_)
        · replace h := h.1 hc
          refine V_iconst (v := 1) dX0_pairUp_136 (by decide) ?_
          refine V_goto 141 dX0_pairUp_137 rfl ?_
          exact V_zret dX0_pairUp_141 rfl (by decide) (by decide) (by decide) ⟨_, rfl, rfl, rfl, h⟩
        · replace h := h.2 hc
          refine V_aload_n dX0_pairUp_126 rfl rfl ?_
          refine V_iload_n dX0_pairUp_127 rfl rfl ?_
          refine V_iload_n dX0_pairUp_128 rfl rfl ?_
          refine V_iconst (v := (-1)) dX0_pairUp_129 (by decide) ?_
          refine V_callVi (st := []) [.int a1, .int a2, .int (-1)] dX0_pairUp_130 ok_mX0_copyPair rfl ml_RX0_164 in_mX0_copyPair se_mX0_copyPair (hS.n 23 rfl) (hS.k 23 0 rfl) (by decide) rfl (Nat.le_of_ble_eq_true rfl) (by decide) (by decide) (by decide) (s_mX0_copyPair hS h) (fun r21 I20 J9 h => ?_)
          obtain ⟨rfl, h⟩ := h
          refine V_if_eq 140 dX0_pairUp_133 rfl (fun hc => ?_) (fun hc => ?_)
          · replace h := h.1 hc
            refine V_iconst (v := 0) dX0_pairUp_140 (by decide) ?_
            exact V_zret dX0_pairUp_141 rfl (by decide) (by decide) (by decide) ⟨_, rfl, rfl, rfl, h⟩
          · replace h := h.2 hc
            refine V_iconst (v := 1) dX0_pairUp_136 (by decide) ?_
            refine V_goto 141 dX0_pairUp_137 rfl ?_
            exact V_zret dX0_pairUp_141 rfl (by decide) (by decide) (by decide) ⟨_, rfl, rfl, rfl, h⟩
def wX0_fillSideBySide_15 (a1 : Int32) (post : Int32 → QI → Prop) : Nat → Int32 → Int32 → QI → Prop
  | 0, _, _, _ => False
  | n + 1, x2, x3, I => ((x2 ≤ x3 → post 1 I) ∧ (¬ x2 ≤ x3 → (wX0_pairUp a1 x3 I (fun r4 I3 => ((¬ r4 = 0 → (∀ v5 : Int32, v5 = (x3 + 1) → (wX0_fillSideBySide_15 a1 post n x2 v5 I3))) ∧ (r4 = 0 → post 0 I3))))))
set_option maxRecDepth 100000 in
set_option maxHeartbeats 4000000 in
theorem swX0_fillSideBySide_15 {X : QX} {S : QS} {a1 : Int32} {J : QJ} {post : Int32 → QI → Prop} (hS : Sh S) : ∀ (f : Nat) (x2 : Int32) (x3 : Int32) (I : QI), wX0_fillSideBySide_15 a1 post f x2 x3 I → V X mX0_fillSideBySide 3 0 0 (q_Pi S (fun r I2 J2 => J = J2 ∧ post r I2)) 15 [(0, .ref 23), (1, .int a1), (2, .int x2), (3, .int x3)] [] S I J 0 0 := by
  intro f
  induction f with
  | zero => intro x2 x3 I h; exact h.elim
  | succ n ih =>
    intro x2 x3 I h
    replace h : ((x2 ≤ x3 → post 1 I) ∧ (¬ x2 ≤ x3 → (wX0_pairUp a1 x3 I (fun r4 I3 => ((¬ r4 = 0 → (∀ v5 : Int32, v5 = (x3 + 1) → (wX0_fillSideBySide_15 a1 post n x2 v5 I3))) ∧ (r4 = 0 → post 0 I3)))))) := h
    refine V_iload_n dX0_fillSideBySide_15 rfl rfl ?_
    refine V_iload_n dX0_fillSideBySide_16 rfl rfl ?_
    refine V_icmp_ge 37 dX0_fillSideBySide_17 rfl (fun hc => ?_) (fun hc => ?_)
    · replace h := h.1 hc
      refine V_iconst (v := 1) dX0_fillSideBySide_37 (by decide) ?_
      exact V_zret dX0_fillSideBySide_38 rfl (by decide) (by decide) (by decide) ⟨_, rfl, rfl, rfl, h⟩
    · replace h := h.2 hc
      refine V_aload_n dX0_fillSideBySide_20 rfl rfl ?_
      refine V_iload_n dX0_fillSideBySide_21 rfl rfl ?_
      refine V_iload_n dX0_fillSideBySide_22 rfl rfl ?_
      refine V_callVi (st := []) [.int a1, .int x3] dX0_fillSideBySide_23 ok_mX0_pairUp rfl ml_RX0_160 in_mX0_pairUp se_mX0_pairUp (hS.n 23 rfl) (hS.k 23 0 rfl) (by decide) rfl (Nat.le_of_ble_eq_true rfl) (by decide) (by decide) (by decide) (s_mX0_pairUp hS h) (fun r4 I3 J9 h => ?_)
      obtain ⟨rfl, h⟩ := h
      refine V_if_ne 31 dX0_fillSideBySide_26 rfl (fun hc => ?_) (fun hc => ?_)
      · replace h := h.1 hc
        obtain ⟨v5, e_v5⟩ : ∃ z : Int32, z = (x3 + 1) := ⟨_, rfl⟩
        replace h := h v5 e_v5
        refine V_iinc (lo2 := [(3, .int v5), (0, .ref 23), (1, .int a1), (2, .int x2)]) 3 dX0_fillSideBySide_31 rfl (v := v5) (by rw [e_v5]; first | done | rfl) (by decide) rfl ?_
        refine V_goto 15 dX0_fillSideBySide_34 rfl ?_
        refine V_sub (lo2 := [(0, .ref 23), (1, .int a1), (2, .int x2), (3, .int v5)]) [1, 2, 3, 0] rfl ?_
        exact ih _ _ _ h
      · replace h := h.2 hc
        refine V_iconst (v := 0) dX0_fillSideBySide_29 (by decide) ?_
        exact V_zret dX0_fillSideBySide_30 rfl (by decide) (by decide) (by decide) ⟨_, rfl, rfl, rfl, h⟩
def wX0_fillSideBySide (a1 : Int32) (I : QI) (post : Int32 → QI → Prop) : Prop := (wX2_firstOf a1 I (fun r1 => (wX0_countOf r1 I (fun r2 => (∃ f : Nat, wX0_fillSideBySide_15 a1 post f r2 0 I)))))
set_option maxRecDepth 100000 in
set_option maxHeartbeats 4000000 in
theorem s_mX0_fillSideBySide {X : QX} {S : QS} {a1 : Int32} {I : QI} {J : QJ} {post : Int32 → QI → Prop} (hS : Sh S) (h : wX0_fillSideBySide a1 I post) : CX X mX0_fillSideBySide 3 0 0 [.ref 23, .int a1] S I J (q_Pi S (fun r I2 J2 => J = J2 ∧ post r I2)) := by
  refine CX.of (lo := [(0, .ref 23), (1, .int a1)]) ok_mX0_fillSideBySide rfl (Nat.le_of_ble_eq_true rfl) rfl ?_
  replace h : (wX2_firstOf a1 I (fun r1 => (wX0_countOf r1 I (fun r2 => (∃ f : Nat, wX0_fillSideBySide_15 a1 post f r2 0 I))))) := h
  refine V_aload_n dX0_fillSideBySide_0 rfl rfl ?_
  refine V_aload_n dX0_fillSideBySide_1 rfl rfl ?_
  refine V_getr dX0_fillSideBySide_2 fl_RX0_15 (hS.n 23 rfl) (hS.k 23 0 rfl) rfl (hS.r 23 1 15 rfl) ?_
  refine V_iload_n dX0_fillSideBySide_5 rfl rfl ?_
  refine V_callVi (st := [.ref 23]) [.int a1] dX0_fillSideBySide_6 ok_mX2_firstOf rfl ml_RX0_85 in_mX2_firstOf se_mX2_firstOf (hS.n 15 rfl) (hS.k 15 2 rfl) (by decide) rfl (Nat.le_of_ble_eq_true rfl) (by decide) (by decide) (by decide) (s_mX2_firstOf hS h) (fun r1 I9 J9 h => ?_)
  obtain ⟨rfl, rfl, h⟩ := h
  refine V_callVi (st := []) [.int r1] dX0_fillSideBySide_9 ok_mX0_countOf rfl ml_RX0_65 in_mX0_countOf se_mX0_countOf (hS.n 23 rfl) (hS.k 23 0 rfl) (by decide) rfl (Nat.le_of_ble_eq_true rfl) (by decide) (by decide) (by decide) (s_mX0_countOf hS h) (fun r2 I9 J9 h => ?_)
  obtain ⟨rfl, rfl, h⟩ := h
  refine V_istore_n (lo2 := [(2, .int r2), (0, .ref 23), (1, .int a1)]) dX0_fillSideBySide_12 rfl (by decide) rfl ?_
  refine V_iconst (v := 0) dX0_fillSideBySide_13 (by decide) ?_
  refine V_istore_n (lo2 := [(3, .int 0), (2, .int r2), (0, .ref 23), (1, .int a1)]) dX0_fillSideBySide_14 rfl (by decide) rfl ?_
  refine V_sub (lo2 := [(0, .ref 23), (1, .int a1), (2, .int r2), (3, .int 0)]) [2, 3, 1, 0] rfl ?_
  obtain ⟨f9, h⟩ := h
  refine swX0_fillSideBySide_15 hS f9 _ _ _ h
def wX0_stays (a1 : Int32) (a2 : Int32) (I : QI) (post : Int32 → Prop) : Prop := (wX2_secondOf a1 I (fun r1 => (wX2_extraOf a1 I (fun r2 => ((a2 = (-1000) → (wX2_kindOf a1 I (fun r3 => ((¬ r3 = 2 → (wX2_kindOf a1 I (fun r4 => ((¬ r4 = 4 → post 1) ∧ (r4 = 4 → (wX0_countOf r1 I (fun r5 => ((r5 ≤ 0 → post 1) ∧ (¬ r5 ≤ 0 → ((a2 = (-1000) → post 0) ∧ (¬ a2 = (-1000) → (wX0_findRow r1 r2 (-1000) I (fun r6 => ((¬ r6 = (-1) → post 0) ∧ (r6 = (-1) → post 1))))))))))))))) ∧ (r3 = 2 → post 0))))) ∧ (¬ a2 = (-1000) → (wX0_findRow r1 r2 a2 I (fun r7 => ((r7 = (-1) → (wX2_kindOf a1 I (fun r8 => ((¬ r8 = 2 → (wX2_kindOf a1 I (fun r9 => ((¬ r9 = 4 → post 1) ∧ (r9 = 4 → (wX0_countOf r1 I (fun r10 => ((r10 ≤ 0 → post 1) ∧ (¬ r10 ≤ 0 → ((a2 = (-1000) → post 0) ∧ (¬ a2 = (-1000) → (wX0_findRow r1 r2 (-1000) I (fun r11 => ((¬ r11 = (-1) → post 0) ∧ (r11 = (-1) → post 1))))))))))))))) ∧ (r8 = 2 → post 0))))) ∧ (¬ r7 = (-1) → (wX2_kindOf a1 I (fun r12 => ((¬ r12 = 2 → (wX2_kindOf a1 I (fun r13 => ((¬ r13 = 4 → post 0) ∧ (r13 = 4 → (wX0_countOf r1 I (fun r14 => ((r14 ≤ 0 → post 0) ∧ (¬ r14 ≤ 0 → post 0))))))))) ∧ (r12 = 2 → post 1))))))))))))))
set_option maxRecDepth 100000 in
set_option maxHeartbeats 4000000 in
theorem s_mX0_stays {X : QX} {S : QS} {a1 : Int32} {a2 : Int32} {I : QI} {J : QJ} {post : Int32 → Prop} (hS : Sh S) (h : wX0_stays a1 a2 I post) : CX X mX0_stays 2 0 0 [.ref 23, .int a1, .int a2] S I J (q_Pi S (fun r I2 J2 => I = I2 ∧ J = J2 ∧ post r)) := by
  refine CX.of (lo := [(0, .ref 23), (1, .int a1), (2, .int a2)]) ok_mX0_stays rfl (Nat.le_of_ble_eq_true rfl) rfl ?_
  replace h : (wX2_secondOf a1 I (fun r1 => (wX2_extraOf a1 I (fun r2 => ((a2 = (-1000) → (wX2_kindOf a1 I (fun r3 => ((¬ r3 = 2 → (wX2_kindOf a1 I (fun r4 => ((¬ r4 = 4 → post 1) ∧ (r4 = 4 → (wX0_countOf r1 I (fun r5 => ((r5 ≤ 0 → post 1) ∧ (¬ r5 ≤ 0 → ((a2 = (-1000) → post 0) ∧ (¬ a2 = (-1000) → (wX0_findRow r1 r2 (-1000) I (fun r6 => ((¬ r6 = (-1) → post 0) ∧ (r6 = (-1) → post 1))))))))))))))) ∧ (r3 = 2 → post 0))))) ∧ (¬ a2 = (-1000) → (wX0_findRow r1 r2 a2 I (fun r7 => ((r7 = (-1) → (wX2_kindOf a1 I (fun r8 => ((¬ r8 = 2 → (wX2_kindOf a1 I (fun r9 => ((¬ r9 = 4 → post 1) ∧ (r9 = 4 → (wX0_countOf r1 I (fun r10 => ((r10 ≤ 0 → post 1) ∧ (¬ r10 ≤ 0 → ((a2 = (-1000) → post 0) ∧ (¬ a2 = (-1000) → (wX0_findRow r1 r2 (-1000) I (fun r11 => ((¬ r11 = (-1) → post 0) ∧ (r11 = (-1) → post 1))))))))))))))) ∧ (r8 = 2 → post 0))))) ∧ (¬ r7 = (-1) → (wX2_kindOf a1 I (fun r12 => ((¬ r12 = 2 → (wX2_kindOf a1 I (fun r13 => ((¬ r13 = 4 → post 0) ∧ (r13 = 4 → (wX0_countOf r1 I (fun r14 => ((r14 ≤ 0 → post 0) ∧ (¬ r14 ≤ 0 → post 0))))))))) ∧ (r12 = 2 → post 1)))))))))))))) := h
  refine V_aload_n dX0_stays_0 rfl rfl ?_
  refine V_getr dX0_stays_1 fl_RX0_15 (hS.n 23 rfl) (hS.k 23 0 rfl) rfl (hS.r 23 1 15 rfl) ?_
  refine V_iload_n dX0_stays_4 rfl rfl ?_
  refine V_callVi (st := []) [.int a1] dX0_stays_5 ok_mX2_secondOf rfl ml_RX0_91 in_mX2_secondOf se_mX2_secondOf (hS.n 15 rfl) (hS.k 15 2 rfl) (by decide) rfl (Nat.le_of_ble_eq_true rfl) (by decide) (by decide) (by decide) (s_mX2_secondOf hS h) (fun r1 I9 J9 h => ?_)
  obtain ⟨rfl, rfl, h⟩ := h
  refine V_istore_n (lo2 := [(3, .int r1), (0, .ref 23), (1, .int a1), (2, .int a2)]) dX0_stays_8 rfl (by decide) rfl ?_
  refine V_aload_n dX0_stays_9 rfl rfl ?_
  refine V_getr dX0_stays_10 fl_RX0_15 (hS.n 23 rfl) (hS.k 23 0 rfl) rfl (hS.r 23 1 15 rfl) ?_
  refine V_iload_n dX0_stays_13 rfl rfl ?_
  refine V_callVi (st := []) [.int a1] dX0_stays_14 ok_mX2_extraOf rfl ml_RX0_151 in_mX2_extraOf se_mX2_extraOf (hS.n 15 rfl) (hS.k 15 2 rfl) (by decide) rfl (Nat.le_of_ble_eq_true rfl) (by decide) (by decide) (by decide) (s_mX2_extraOf hS h) (fun r2 I9 J9 h => ?_)
  obtain ⟨rfl, rfl, h⟩ := h
  refine V_istore (lo2 := [(4, .int r2), (3, .int r1), (0, .ref 23), (1, .int a1), (2, .int a2)]) dX0_stays_17 (by decide) rfl ?_
  refine V_iload_n dX0_stays_19 rfl rfl ?_
  refine V_sipush (v := (-1000)) dX0_stays_20 (by decide) ?_
  refine V_icmp_eq 42 dX0_stays_23 rfl (fun hc => ?_) (fun hc => ?_)
  · replace h := h.1 hc
    refine V_iconst (v := 0) dX0_stays_42 (by decide) ?_
    refine V_istore (lo2 := [(5, .int 0), (4, .int r2), (3, .int r1), (0, .ref 23), (1, .int a1), (2, .int a2)]) dX0_stays_43 (by decide) rfl ?_
    refine V_aload_n dX0_stays_45 rfl rfl ?_
    refine V_getr dX0_stays_46 fl_RX0_15 (hS.n 23 rfl) (hS.k 23 0 rfl) rfl (hS.r 23 1 15 rfl) ?_
    refine V_iload_n dX0_stays_49 rfl rfl ?_
    refine V_callVi (st := []) [.int a1] dX0_stays_50 ok_mX2_kindOf rfl ml_RX0_107 in_mX2_kindOf se_mX2_kindOf (hS.n 15 rfl) (hS.k 15 2 rfl) (by decide) rfl (Nat.le_of_ble_eq_true rfl) (by decide) (by decide) (by decide) (s_mX2_kindOf hS h) (fun r3 I9 J9 h => ?_)
    obtain ⟨rfl, rfl, h⟩ := h
    refine V_iconst (v := 2) dX0_stays_53 (by decide) ?_
    refine V_icmp_ne 60 dX0_stays_54 rfl (fun hc => ?_) (fun hc => ?_)
    · replace h := h.1 hc
      refine V_aload_n dX0_stays_60 rfl rfl ?_
      refine V_getr dX0_stays_61 fl_RX0_15 (hS.n 23 rfl) (hS.k 23 0 rfl) rfl (hS.r 23 1 15 rfl) ?_
      refine V_iload_n dX0_stays_64 rfl rfl ?_
      refine V_callVi (st := []) [.int a1] dX0_stays_65 ok_mX2_kindOf rfl ml_RX0_107 in_mX2_kindOf se_mX2_kindOf (hS.n 15 rfl) (hS.k 15 2 rfl) (by decide) rfl (Nat.le_of_ble_eq_true rfl) (by decide) (by decide) (by decide) (s_mX2_kindOf hS h) (fun r4 I9 J9 h => ?_)
      obtain ⟨rfl, rfl, h⟩ := h
      refine V_iconst (v := 4) dX0_stays_68 (by decide) ?_
      refine V_icmp_ne 112 dX0_stays_69 rfl (fun hc => ?_) (fun hc => ?_)
      · replace h := h.1 hc
        refine V_iload dX0_stays_112 rfl ?_
        refine V_if_ne 121 dX0_stays_114 rfl (fun hc => ?_) (fun hc => ?_)
        · first | exact absurd hc (by decide) | exact absurd (by decide) hc
        · refine V_iconst (v := 1) dX0_stays_117 (by decide) ?_
          refine V_goto 122 dX0_stays_118 rfl ?_
          exact V_zret dX0_stays_122 rfl (by decide) (by decide) (by decide) ⟨_, rfl, rfl, rfl, rfl, h⟩
      · replace h := h.2 hc
        refine V_aload_n dX0_stays_72 rfl rfl ?_
        refine V_iload_n dX0_stays_73 rfl rfl ?_
        refine V_callVi (st := []) [.int r1] dX0_stays_74 ok_mX0_countOf rfl ml_RX0_65 in_mX0_countOf se_mX0_countOf (hS.n 23 rfl) (hS.k 23 0 rfl) (by decide) rfl (Nat.le_of_ble_eq_true rfl) (by decide) (by decide) (by decide) (s_mX0_countOf hS h) (fun r5 I9 J9 h => ?_)
        obtain ⟨rfl, rfl, h⟩ := h
        refine V_if_le 112 dX0_stays_77 rfl (fun hc => ?_) (fun hc => ?_)
        · replace h := h.1 hc
          refine V_iload dX0_stays_112 rfl ?_
          refine V_if_ne 121 dX0_stays_114 rfl (fun hc => ?_) (fun hc => ?_)
          · first | exact absurd hc (by decide) | exact absurd (by decide) hc
          · refine V_iconst (v := 1) dX0_stays_117 (by decide) ?_
            refine V_goto 122 dX0_stays_118 rfl ?_
            exact V_zret dX0_stays_122 rfl (by decide) (by decide) (by decide) ⟨_, rfl, rfl, rfl, rfl, h⟩
        · replace h := h.2 hc
          refine V_iload dX0_stays_80 rfl ?_
          refine V_if_ne 110 dX0_stays_82 rfl (fun hc => ?_) (fun hc => ?_)
          · first | exact absurd hc (by decide) | exact absurd (by decide) hc
          · refine V_iload_n dX0_stays_85 rfl rfl ?_
            refine V_sipush (v := (-1000)) dX0_stays_86 (by decide) ?_
            refine V_icmp_eq 110 dX0_stays_89 rfl (fun hc => ?_) (fun hc => ?_)
            · replace h := h.1 hc
              refine V_iconst (v := 0) dX0_stays_110 (by decide) ?_
              exact V_zret dX0_stays_111 rfl (by decide) (by decide) (by decide) ⟨_, rfl, rfl, rfl, rfl, h⟩
            · replace h := h.2 hc
              refine V_aload_n dX0_stays_92 rfl rfl ?_
              refine V_iload_n dX0_stays_93 rfl rfl ?_
              refine V_iload dX0_stays_94 rfl ?_
              refine V_sipush (v := (-1000)) dX0_stays_96 (by decide) ?_
              refine V_callVi (st := []) [.int r1, .int r2, .int (-1000)] dX0_stays_99 ok_mX0_findRow rfl ml_RX0_170 in_mX0_findRow se_mX0_findRow (hS.n 23 rfl) (hS.k 23 0 rfl) (by decide) rfl (Nat.le_of_ble_eq_true rfl) (by decide) (by decide) (by decide) (s_mX0_findRow hS h) (fun r6 I9 J9 h => ?_)
              obtain ⟨rfl, rfl, h⟩ := h
              refine V_iconst (v := (-1)) dX0_stays_102 (by decide) ?_
              refine V_icmp_ne 110 dX0_stays_103 rfl (fun hc => ?_) (fun hc => ?_)
              · replace h := h.1 hc
                refine V_iconst (v := 0) dX0_stays_110 (by decide) ?_
                exact V_zret dX0_stays_111 rfl (by decide) (by decide) (by decide) ⟨_, rfl, rfl, rfl, rfl, h⟩
              · replace h := h.2 hc
                refine V_iconst (v := 1) dX0_stays_106 (by decide) ?_
                refine V_goto 111 dX0_stays_107 rfl ?_
                exact V_zret dX0_stays_111 rfl (by decide) (by decide) (by decide) ⟨_, rfl, rfl, rfl, rfl, h⟩
    · replace h := h.2 hc
      refine V_iload dX0_stays_57 rfl ?_
      exact V_zret dX0_stays_59 rfl (by decide) (by decide) (by decide) ⟨_, rfl, rfl, rfl, rfl, h⟩
  · replace h := h.2 hc
    refine V_aload_n dX0_stays_26 rfl rfl ?_
    refine V_iload_n dX0_stays_27 rfl rfl ?_
    refine V_iload dX0_stays_28 rfl ?_
    refine V_iload_n dX0_stays_30 rfl rfl ?_
    refine V_callVi (st := []) [.int r1, .int r2, .int a2] dX0_stays_31 ok_mX0_findRow rfl ml_RX0_170 in_mX0_findRow se_mX0_findRow (hS.n 23 rfl) (hS.k 23 0 rfl) (by decide) rfl (Nat.le_of_ble_eq_true rfl) (by decide) (by decide) (by decide) (s_mX0_findRow hS h) (fun r7 I9 J9 h => ?_)
    obtain ⟨rfl, rfl, h⟩ := h
    refine V_iconst (v := (-1)) dX0_stays_34 (by decide) ?_
    refine V_icmp_eq 42 dX0_stays_35 rfl (fun hc => ?_) (fun hc => ?_)
    · replace h := h.1 hc
      refine V_iconst (v := 0) dX0_stays_42 (by decide) ?_
      refine V_istore (lo2 := [(5, .int 0), (4, .int r2), (3, .int r1), (0, .ref 23), (1, .int a1), (2, .int a2)]) dX0_stays_43 (by decide) rfl ?_
      refine V_aload_n dX0_stays_45 rfl rfl ?_
      refine V_getr dX0_stays_46 fl_RX0_15 (hS.n 23 rfl) (hS.k 23 0 rfl) rfl (hS.r 23 1 15 rfl) ?_
      refine V_iload_n dX0_stays_49 rfl rfl ?_
      refine V_callVi (st := []) [.int a1] dX0_stays_50 ok_mX2_kindOf rfl ml_RX0_107 in_mX2_kindOf se_mX2_kindOf (hS.n 15 rfl) (hS.k 15 2 rfl) (by decide) rfl (Nat.le_of_ble_eq_true rfl) (by decide) (by decide) (by decide) (s_mX2_kindOf hS h) (fun r8 I9 J9 h => ?_)
      obtain ⟨rfl, rfl, h⟩ := h
      refine V_iconst (v := 2) dX0_stays_53 (by decide) ?_
      refine V_icmp_ne 60 dX0_stays_54 rfl (fun hc => ?_) (fun hc => ?_)
      · replace h := h.1 hc
        refine V_aload_n dX0_stays_60 rfl rfl ?_
        refine V_getr dX0_stays_61 fl_RX0_15 (hS.n 23 rfl) (hS.k 23 0 rfl) rfl (hS.r 23 1 15 rfl) ?_
        refine V_iload_n dX0_stays_64 rfl rfl ?_
        refine V_callVi (st := []) [.int a1] dX0_stays_65 ok_mX2_kindOf rfl ml_RX0_107 in_mX2_kindOf se_mX2_kindOf (hS.n 15 rfl) (hS.k 15 2 rfl) (by decide) rfl (Nat.le_of_ble_eq_true rfl) (by decide) (by decide) (by decide) (s_mX2_kindOf hS h) (fun r9 I9 J9 h => ?_)
        obtain ⟨rfl, rfl, h⟩ := h
        refine V_iconst (v := 4) dX0_stays_68 (by decide) ?_
        refine V_icmp_ne 112 dX0_stays_69 rfl (fun hc => ?_) (fun hc => ?_)
        · replace h := h.1 hc
          refine V_iload dX0_stays_112 rfl ?_
          refine V_if_ne 121 dX0_stays_114 rfl (fun hc => ?_) (fun hc => ?_)
          · first | exact absurd hc (by decide) | exact absurd (by decide) hc
          · refine V_iconst (v := 1) dX0_stays_117 (by decide) ?_
            refine V_goto 122 dX0_stays_118 rfl ?_
            exact V_zret dX0_stays_122 rfl (by decide) (by decide) (by decide) ⟨_, rfl, rfl, rfl, rfl, h⟩
        · replace h := h.2 hc
          refine V_aload_n dX0_stays_72 rfl rfl ?_
          refine V_iload_n dX0_stays_73 rfl rfl ?_
          refine V_callVi (st := []) [.int r1] dX0_stays_74 ok_mX0_countOf rfl ml_RX0_65 in_mX0_countOf se_mX0_countOf (hS.n 23 rfl) (hS.k 23 0 rfl) (by decide) rfl (Nat.le_of_ble_eq_true rfl) (by decide) (by decide) (by decide) (s_mX0_countOf hS h) (fun r10 I9 J9 h => ?_)
          obtain ⟨rfl, rfl, h⟩ := h
          refine V_if_le 112 dX0_stays_77 rfl (fun hc => ?_) (fun hc => ?_)
          · replace h := h.1 hc
            refine V_iload dX0_stays_112 rfl ?_
            refine V_if_ne 121 dX0_stays_114 rfl (fun hc => ?_) (fun hc => ?_)
            · first | exact absurd hc (by decide) | exact absurd (by decide) hc
            · refine V_iconst (v := 1) dX0_stays_117 (by decide) ?_
              refine V_goto 122 dX0_stays_118 rfl ?_
              exact V_zret dX0_stays_122 rfl (by decide) (by decide) (by decide) ⟨_, rfl, rfl, rfl, rfl, h⟩
          · replace h := h.2 hc
            refine V_iload dX0_stays_80 rfl ?_
            refine V_if_ne 110 dX0_stays_82 rfl (fun hc => ?_) (fun hc => ?_)
            · first | exact absurd hc (by decide) | exact absurd (by decide) hc
            · refine V_iload_n dX0_stays_85 rfl rfl ?_
              refine V_sipush (v := (-1000)) dX0_stays_86 (by decide) ?_
              refine V_icmp_eq 110 dX0_stays_89 rfl (fun hc => ?_) (fun hc => ?_)
              · replace h := h.1 hc
                refine V_iconst (v := 0) dX0_stays_110 (by decide) ?_
                exact V_zret dX0_stays_111 rfl (by decide) (by decide) (by decide) ⟨_, rfl, rfl, rfl, rfl, h⟩
              · replace h := h.2 hc
                refine V_aload_n dX0_stays_92 rfl rfl ?_
                refine V_iload_n dX0_stays_93 rfl rfl ?_
                refine V_iload dX0_stays_94 rfl ?_
                refine V_sipush (v := (-1000)) dX0_stays_96 (by decide) ?_
                refine V_callVi (st := []) [.int r1, .int r2, .int (-1000)] dX0_stays_99 ok_mX0_findRow rfl ml_RX0_170 in_mX0_findRow se_mX0_findRow (hS.n 23 rfl) (hS.k 23 0 rfl) (by decide) rfl (Nat.le_of_ble_eq_true rfl) (by decide) (by decide) (by decide) (s_mX0_findRow hS h) (fun r11 I9 J9 h => ?_)
                obtain ⟨rfl, rfl, h⟩ := h
                refine V_iconst (v := (-1)) dX0_stays_102 (by decide) ?_
                refine V_icmp_ne 110 dX0_stays_103 rfl (fun hc => ?_) (fun hc => ?_)
                · replace h := h.1 hc
                  refine V_iconst (v := 0) dX0_stays_110 (by decide) ?_
                  exact V_zret dX0_stays_111 rfl (by decide) (by decide) (by decide) ⟨_, rfl, rfl, rfl, rfl, h⟩
                · replace h := h.2 hc
                  refine V_iconst (v := 1) dX0_stays_106 (by decide) ?_
                  refine V_goto 111 dX0_stays_107 rfl ?_
                  exact V_zret dX0_stays_111 rfl (by decide) (by decide) (by decide) ⟨_, rfl, rfl, rfl, rfl, h⟩
      · replace h := h.2 hc
        refine V_iload dX0_stays_57 rfl ?_
        exact V_zret dX0_stays_59 rfl (by decide) (by decide) (by decide) ⟨_, rfl, rfl, rfl, rfl, h⟩
    · replace h := h.2 hc
      refine V_iconst (v := 1) dX0_stays_38 (by decide) ?_
      refine V_goto 43 dX0_stays_39 rfl ?_
      refine V_istore (lo2 := [(5, .int 1), (4, .int r2), (3, .int r1), (0, .ref 23), (1, .int a1), (2, .int a2)]) dX0_stays_43 (by decide) rfl ?_
      refine V_aload_n dX0_stays_45 rfl rfl ?_
      refine V_getr dX0_stays_46 fl_RX0_15 (hS.n 23 rfl) (hS.k 23 0 rfl) rfl (hS.r 23 1 15 rfl) ?_
      refine V_iload_n dX0_stays_49 rfl rfl ?_
      refine V_callVi (st := []) [.int a1] dX0_stays_50 ok_mX2_kindOf rfl ml_RX0_107 in_mX2_kindOf se_mX2_kindOf (hS.n 15 rfl) (hS.k 15 2 rfl) (by decide) rfl (Nat.le_of_ble_eq_true rfl) (by decide) (by decide) (by decide) (s_mX2_kindOf hS h) (fun r12 I9 J9 h => ?_)
      obtain ⟨rfl, rfl, h⟩ := h
      refine V_iconst (v := 2) dX0_stays_53 (by decide) ?_
      refine V_icmp_ne 60 dX0_stays_54 rfl (fun hc => ?_) (fun hc => ?_)
      · replace h := h.1 hc
        refine V_aload_n dX0_stays_60 rfl rfl ?_
        refine V_getr dX0_stays_61 fl_RX0_15 (hS.n 23 rfl) (hS.k 23 0 rfl) rfl (hS.r 23 1 15 rfl) ?_
        refine V_iload_n dX0_stays_64 rfl rfl ?_
        refine V_callVi (st := []) [.int a1] dX0_stays_65 ok_mX2_kindOf rfl ml_RX0_107 in_mX2_kindOf se_mX2_kindOf (hS.n 15 rfl) (hS.k 15 2 rfl) (by decide) rfl (Nat.le_of_ble_eq_true rfl) (by decide) (by decide) (by decide) (s_mX2_kindOf hS h) (fun r13 I9 J9 h => ?_)
        obtain ⟨rfl, rfl, h⟩ := h
        refine V_iconst (v := 4) dX0_stays_68 (by decide) ?_
        refine V_icmp_ne 112 dX0_stays_69 rfl (fun hc => ?_) (fun hc => ?_)
        · replace h := h.1 hc
          refine V_iload dX0_stays_112 rfl ?_
          refine V_if_ne 121 dX0_stays_114 rfl (fun hc => ?_) (fun hc => ?_)
          · refine V_iconst (v := 0) dX0_stays_121 (by decide) ?_
            exact V_zret dX0_stays_122 rfl (by decide) (by decide) (by decide) ⟨_, rfl, rfl, rfl, rfl, h⟩
          · first | exact absurd hc (by decide) | exact absurd (by decide) hc
        · replace h := h.2 hc
          refine V_aload_n dX0_stays_72 rfl rfl ?_
          refine V_iload_n dX0_stays_73 rfl rfl ?_
          refine V_callVi (st := []) [.int r1] dX0_stays_74 ok_mX0_countOf rfl ml_RX0_65 in_mX0_countOf se_mX0_countOf (hS.n 23 rfl) (hS.k 23 0 rfl) (by decide) rfl (Nat.le_of_ble_eq_true rfl) (by decide) (by decide) (by decide) (s_mX0_countOf hS h) (fun r14 I9 J9 h => ?_)
          obtain ⟨rfl, rfl, h⟩ := h
          refine V_if_le 112 dX0_stays_77 rfl (fun hc => ?_) (fun hc => ?_)
          · replace h := h.1 hc
            refine V_iload dX0_stays_112 rfl ?_
            refine V_if_ne 121 dX0_stays_114 rfl (fun hc => ?_) (fun hc => ?_)
            · refine V_iconst (v := 0) dX0_stays_121 (by decide) ?_
              exact V_zret dX0_stays_122 rfl (by decide) (by decide) (by decide) ⟨_, rfl, rfl, rfl, rfl, h⟩
            · first | exact absurd hc (by decide) | exact absurd (by decide) hc
          · replace h := h.2 hc
            refine V_iload dX0_stays_80 rfl ?_
            refine V_if_ne 110 dX0_stays_82 rfl (fun hc => ?_) (fun hc => ?_)
            · refine V_iconst (v := 0) dX0_stays_110 (by decide) ?_
              exact V_zret dX0_stays_111 rfl (by decide) (by decide) (by decide) ⟨_, rfl, rfl, rfl, rfl, h⟩
            · first | exact absurd hc (by decide) | exact absurd (by decide) hc
      · replace h := h.2 hc
        refine V_iload dX0_stays_57 rfl ?_
        exact V_zret dX0_stays_59 rfl (by decide) (by decide) (by decide) ⟨_, rfl, rfl, rfl, rfl, h⟩
def wX0_fillStaying_11 (a1 : Int32) (post : Int32 → QI → Prop) : Nat → Int32 → Int32 → QI → Prop
  | 0, _, _, _ => False
  | n + 1, x2, x3, I => (wX0_countOf x2 I (fun r2 => ((r2 ≤ x3 → post 1 I) ∧ (¬ r2 ≤ x3 → (wX2_columnOf a1 I (fun r3 => (wX0_valueAt x2 x3 r3 I (fun r4 => (wX0_stays a1 r4 I (fun r5 => ((r5 = 0 → (∀ v6 : Int32, v6 = (x3 + 1) → (wX0_fillStaying_11 a1 post n x2 v6 I))) ∧ (¬ r5 = 0 → (wX0_copyRow a1 x2 x3 I (fun r8 I7 => (∀ v9 : Int32, v9 = (x3 + 1) → (wX0_fillStaying_11 a1 post n x2 v9 I7))))))))))))))))
set_option maxRecDepth 100000 in
set_option maxHeartbeats 4000000 in
theorem swX0_fillStaying_11 {X : QX} {S : QS} {a1 : Int32} {J : QJ} {post : Int32 → QI → Prop} (hS : Sh S) : ∀ (f : Nat) (x2 : Int32) (x3 : Int32) (I : QI), wX0_fillStaying_11 a1 post f x2 x3 I → V X mX0_fillStaying 3 0 0 (q_Pi S (fun r I2 J2 => J = J2 ∧ post r I2)) 11 [(0, .ref 23), (1, .int a1), (2, .int x2), (3, .int x3)] [] S I J 0 0 := by
  intro f
  induction f with
  | zero => intro x2 x3 I h; exact h.elim
  | succ n ih =>
    intro x2 x3 I h
    replace h : (wX0_countOf x2 I (fun r2 => ((r2 ≤ x3 → post 1 I) ∧ (¬ r2 ≤ x3 → (wX2_columnOf a1 I (fun r3 => (wX0_valueAt x2 x3 r3 I (fun r4 => (wX0_stays a1 r4 I (fun r5 => ((r5 = 0 → (∀ v6 : Int32, v6 = (x3 + 1) → (wX0_fillStaying_11 a1 post n x2 v6 I))) ∧ (¬ r5 = 0 → (wX0_copyRow a1 x2 x3 I (fun r8 I7 => (∀ v9 : Int32, v9 = (x3 + 1) → (wX0_fillStaying_11 a1 post n x2 v9 I7)))))))))))))))) := h
    refine V_iload_n dX0_fillStaying_11 rfl rfl ?_
    refine V_aload_n dX0_fillStaying_12 rfl rfl ?_
    refine V_iload_n dX0_fillStaying_13 rfl rfl ?_
    refine V_callVi (st := [.int x3]) [.int x2] dX0_fillStaying_14 ok_mX0_countOf rfl ml_RX0_65 in_mX0_countOf se_mX0_countOf (hS.n 23 rfl) (hS.k 23 0 rfl) (by decide) rfl (Nat.le_of_ble_eq_true rfl) (by decide) (by decide) (by decide) (s_mX0_countOf hS h) (fun r2 I9 J9 h => ?_)
    obtain ⟨rfl, rfl, h⟩ := h
    refine V_icmp_ge 56 dX0_fillStaying_17 rfl (fun hc => ?_) (fun hc => ?_)
    · replace h := h.1 hc
      refine V_iconst (v := 1) dX0_fillStaying_56 (by decide) ?_
      exact V_zret dX0_fillStaying_57 rfl (by decide) (by decide) (by decide) ⟨_, rfl, rfl, rfl, h⟩
    · replace h := h.2 hc
      refine V_aload_n dX0_fillStaying_20 rfl rfl ?_
      refine V_iload_n dX0_fillStaying_21 rfl rfl ?_
      refine V_aload_n dX0_fillStaying_22 rfl rfl ?_
      refine V_iload_n dX0_fillStaying_23 rfl rfl ?_
      refine V_iload_n dX0_fillStaying_24 rfl rfl ?_
      refine V_aload_n dX0_fillStaying_25 rfl rfl ?_
      refine V_getr dX0_fillStaying_26 fl_RX0_15 (hS.n 23 rfl) (hS.k 23 0 rfl) rfl (hS.r 23 1 15 rfl) ?_
      refine V_iload_n dX0_fillStaying_29 rfl rfl ?_
      refine V_callVi (st := [.int x3, .int x2, .ref 23, .int a1, .ref 23]) [.int a1] dX0_fillStaying_30 ok_mX2_columnOf rfl ml_RX0_144 in_mX2_columnOf se_mX2_columnOf (hS.n 15 rfl) (hS.k 15 2 rfl) (by decide) rfl (Nat.le_of_ble_eq_true rfl) (by decide) (by decide) (by decide) (s_mX2_columnOf hS h) (fun r3 I9 J9 h => ?_)
      obtain ⟨rfl, rfl, h⟩ := h
      refine V_callVi (st := [.int a1, .ref 23]) [.int x2, .int x3, .int r3] dX0_fillStaying_33 ok_mX0_valueAt rfl ml_RX0_147 in_mX0_valueAt se_mX0_valueAt (hS.n 23 rfl) (hS.k 23 0 rfl) (by decide) rfl (Nat.le_of_ble_eq_true rfl) (by decide) (by decide) (by decide) (s_mX0_valueAt hS h) (fun r4 I9 J9 h => ?_)
      obtain ⟨rfl, rfl, h⟩ := h
      refine V_callVi (st := []) [.int a1, .int r4] dX0_fillStaying_36 ok_mX0_stays rfl ml_RX0_167 in_mX0_stays se_mX0_stays (hS.n 23 rfl) (hS.k 23 0 rfl) (by decide) rfl (Nat.le_of_ble_eq_true rfl) (by decide) (by decide) (by decide) (s_mX0_stays hS h) (fun r5 I9 J9 h => ?_)
      obtain ⟨rfl, rfl, h⟩ := h
      refine V_if_eq 50 dX0_fillStaying_39 rfl (fun hc => ?_) (fun hc => ?_)
      · replace h := h.1 hc
        obtain ⟨v6, e_v6⟩ : ∃ z : Int32, z = (x3 + 1) := ⟨_, rfl⟩
        replace h := h v6 e_v6
        refine V_iinc (lo2 := [(3, .int v6), (0, .ref 23), (1, .int a1), (2, .int x2)]) 3 dX0_fillStaying_50 rfl (v := v6) (by rw [e_v6]; first | done | rfl) (by decide) rfl ?_
        refine V_goto 11 dX0_fillStaying_53 rfl ?_
        refine V_sub (lo2 := [(0, .ref 23), (1, .int a1), (2, .int x2), (3, .int v6)]) [1, 2, 3, 0] rfl ?_
        exact ih _ _ _ h
      · replace h := h.2 hc
        refine V_aload_n dX0_fillStaying_42 rfl rfl ?_
        refine V_iload_n dX0_fillStaying_43 rfl rfl ?_
        refine V_iload_n dX0_fillStaying_44 rfl rfl ?_
        refine V_iload_n dX0_fillStaying_45 rfl rfl ?_
        refine V_callVi (st := []) [.int a1, .int x2, .int x3] dX0_fillStaying_46 ok_mX0_copyRow rfl ml_RX0_157 in_mX0_copyRow se_mX0_copyRow (hS.n 23 rfl) (hS.k 23 0 rfl) (by decide) rfl (Nat.le_of_ble_eq_true rfl) (by decide) (by decide) (by decide) (s_mX0_copyRow hS h) (fun r8 I7 J9 h => ?_)
        obtain ⟨rfl, h⟩ := h
        refine V_pop dX0_fillStaying_49 rfl ?_
        obtain ⟨v9, e_v9⟩ : ∃ z : Int32, z = (x3 + 1) := ⟨_, rfl⟩
        replace h := h v9 e_v9
        refine V_iinc (lo2 := [(3, .int v9), (0, .ref 23), (1, .int a1), (2, .int x2)]) 3 dX0_fillStaying_50 rfl (v := v9) (by rw [e_v9]; first | done | rfl) (by decide) rfl ?_
        refine V_goto 11 dX0_fillStaying_53 rfl ?_
        refine V_sub (lo2 := [(0, .ref 23), (1, .int a1), (2, .int x2), (3, .int v9)]) [1, 2, 3, 0] rfl ?_
        exact ih _ _ _ h
def wX0_fillStaying (a1 : Int32) (I : QI) (post : Int32 → QI → Prop) : Prop := (wX2_firstOf a1 I (fun r1 => (∃ f : Nat, wX0_fillStaying_11 a1 post f r1 0 I)))
set_option maxRecDepth 100000 in
set_option maxHeartbeats 4000000 in
theorem s_mX0_fillStaying {X : QX} {S : QS} {a1 : Int32} {I : QI} {J : QJ} {post : Int32 → QI → Prop} (hS : Sh S) (h : wX0_fillStaying a1 I post) : CX X mX0_fillStaying 3 0 0 [.ref 23, .int a1] S I J (q_Pi S (fun r I2 J2 => J = J2 ∧ post r I2)) := by
  refine CX.of (lo := [(0, .ref 23), (1, .int a1)]) ok_mX0_fillStaying rfl (Nat.le_of_ble_eq_true rfl) rfl ?_
  replace h : (wX2_firstOf a1 I (fun r1 => (∃ f : Nat, wX0_fillStaying_11 a1 post f r1 0 I))) := h
  refine V_aload_n dX0_fillStaying_0 rfl rfl ?_
  refine V_getr dX0_fillStaying_1 fl_RX0_15 (hS.n 23 rfl) (hS.k 23 0 rfl) rfl (hS.r 23 1 15 rfl) ?_
  refine V_iload_n dX0_fillStaying_4 rfl rfl ?_
  refine V_callVi (st := []) [.int a1] dX0_fillStaying_5 ok_mX2_firstOf rfl ml_RX0_85 in_mX2_firstOf se_mX2_firstOf (hS.n 15 rfl) (hS.k 15 2 rfl) (by decide) rfl (Nat.le_of_ble_eq_true rfl) (by decide) (by decide) (by decide) (s_mX2_firstOf hS h) (fun r1 I9 J9 h => ?_)
  obtain ⟨rfl, rfl, h⟩ := h
  refine V_istore_n (lo2 := [(2, .int r1), (0, .ref 23), (1, .int a1)]) dX0_fillStaying_8 rfl (by decide) rfl ?_
  refine V_iconst (v := 0) dX0_fillStaying_9 (by decide) ?_
  refine V_istore_n (lo2 := [(3, .int 0), (2, .int r1), (0, .ref 23), (1, .int a1)]) dX0_fillStaying_10 rfl (by decide) rfl ?_
  refine V_sub (lo2 := [(0, .ref 23), (1, .int a1), (2, .int r1), (3, .int 0)]) [2, 3, 1, 0] rfl ?_
  obtain ⟨f9, h⟩ := h
  refine swX0_fillStaying_11 hS f9 _ _ _ h
def wX0_fill (a1 : Int32) (I : QI) (post : Int32 → QI → Prop) : Prop := (wX2_typeOf a1 I (fun r1 => ((r1 = 0 → (wX0_fillScan a1 I (fun r4 I3 => ((r4 = 0 ∨ r4 = 1) ∧ post r4 I3)))) ∧ (r1 = 1 → (wX0_fillFilter a1 I (fun r6 I5 => ((r6 = 0 ∨ r6 = 1) ∧ post r6 I5)))) ∧ (r1 = 2 → (wX2_kindOf a1 I (fun r7 => ((r7 = 0 → (wX0_fillSideBySide a1 I (fun r9 I8 => ((r9 = 0 ∨ r9 = 1) ∧ post r9 I8)))) ∧ (¬ r7 = 0 → (wX2_kindOf a1 I (fun r10 => ((¬ r10 = 1 → (wX0_fillStaying a1 I (fun r12 I11 => ((r12 = 0 ∨ r12 = 1) ∧ post r12 I11)))) ∧ (r10 = 1 → (wX0_fillSideBySide a1 I (fun r14 I13 => ((r14 = 0 ∨ r14 = 1) ∧ post r14 I13)))))))))))) ∧ (r1 = 3 → (wX0_fillGroup a1 I (fun r16 I15 => ((r16 = 0 ∨ r16 = 1) ∧ post r16 I15)))) ∧ (r1 = 4 → (wX0_fillBag a1 I (fun r18 I17 => ((r18 = 0 ∨ r18 = 1) ∧ post r18 I17)))) ∧ (¬ r1 = 0 → ¬ r1 = 1 → ¬ r1 = 2 → ¬ r1 = 3 → ¬ r1 = 4 → post 0 I))))
set_option maxRecDepth 100000 in
set_option maxHeartbeats 4000000 in
theorem s_mX0_fill {X : QX} {S : QS} {a1 : Int32} {I : QI} {J : QJ} {post : Int32 → QI → Prop} (hS : Sh S) (h : wX0_fill a1 I post) : CX X mX0_fill 5 0 0 [.ref 23, .int a1] S I J (q_Pi S (fun r I2 J2 => J = J2 ∧ post r I2)) := by
  refine CX.of (lo := [(0, .ref 23), (1, .int a1)]) ok_mX0_fill rfl (Nat.le_of_ble_eq_true rfl) rfl ?_
  replace h : (wX2_typeOf a1 I (fun r1 => ((r1 = 0 → (wX0_fillScan a1 I (fun r4 I3 => ((r4 = 0 ∨ r4 = 1) ∧ post r4 I3)))) ∧ (r1 = 1 → (wX0_fillFilter a1 I (fun r6 I5 => ((r6 = 0 ∨ r6 = 1) ∧ post r6 I5)))) ∧ (r1 = 2 → (wX2_kindOf a1 I (fun r7 => ((r7 = 0 → (wX0_fillSideBySide a1 I (fun r9 I8 => ((r9 = 0 ∨ r9 = 1) ∧ post r9 I8)))) ∧ (¬ r7 = 0 → (wX2_kindOf a1 I (fun r10 => ((¬ r10 = 1 → (wX0_fillStaying a1 I (fun r12 I11 => ((r12 = 0 ∨ r12 = 1) ∧ post r12 I11)))) ∧ (r10 = 1 → (wX0_fillSideBySide a1 I (fun r14 I13 => ((r14 = 0 ∨ r14 = 1) ∧ post r14 I13)))))))))))) ∧ (r1 = 3 → (wX0_fillGroup a1 I (fun r16 I15 => ((r16 = 0 ∨ r16 = 1) ∧ post r16 I15)))) ∧ (r1 = 4 → (wX0_fillBag a1 I (fun r18 I17 => ((r18 = 0 ∨ r18 = 1) ∧ post r18 I17)))) ∧ (¬ r1 = 0 → ¬ r1 = 1 → ¬ r1 = 2 → ¬ r1 = 3 → ¬ r1 = 4 → post 0 I)))) := h
  refine V_aload_n dX0_fill_0 rfl rfl ?_
  refine V_getr dX0_fill_1 fl_RX0_15 (hS.n 23 rfl) (hS.k 23 0 rfl) rfl (hS.r 23 1 15 rfl) ?_
  refine V_iload_n dX0_fill_4 rfl rfl ?_
  refine V_callVi (st := []) [.int a1] dX0_fill_5 ok_mX2_typeOf rfl ml_RX0_82 in_mX2_typeOf se_mX2_typeOf (hS.n 15 rfl) (hS.k 15 2 rfl) (by decide) rfl (Nat.le_of_ble_eq_true rfl) (by decide) (by decide) (by decide) (s_mX2_typeOf hS h) (fun r1 I9 J9 h => ?_)
  obtain ⟨rfl, rfl, h⟩ := h
  by_cases hc0 : r1 = 0
  · replace h := h.1 hc0
    refine V_tableIn 44 dX0_fill_8 (by rw [hc0]; decide) (by rw [hc0]; decide) (by rw [hc0]; first | done | rfl) rfl ?_
    refine V_aload_n dX0_fill_44 rfl rfl ?_
    refine V_iload_n dX0_fill_45 rfl rfl ?_
    refine V_callVi (st := []) [.int a1] dX0_fill_46 ok_mX0_fillScan rfl ml_RX0_101 in_mX0_fillScan se_mX0_fillScan (hS.n 23 rfl) (hS.k 23 0 rfl) (by decide) rfl (Nat.le_of_ble_eq_true rfl) (by decide) (by decide) (by decide) (s_mX0_fillScan hS h) (fun r4 I3 J9 h => ?_)
    obtain ⟨rfl, h⟩ := h
    obtain ⟨hz, h⟩ := h
    exact V_zret dX0_fill_49 rfl (q_nz hz) (by decide) (by decide) ⟨_, rfl, rfl, rfl, h⟩
  by_cases hc1 : r1 = 1
  · replace h := h.2.1 hc1
    refine V_tableIn 50 dX0_fill_8 (by rw [hc1]; decide) (by rw [hc1]; decide) (by rw [hc1]; first | done | rfl) rfl ?_
    refine V_aload_n dX0_fill_50 rfl rfl ?_
    refine V_iload_n dX0_fill_51 rfl rfl ?_
    refine V_callVi (st := []) [.int a1] dX0_fill_52 ok_mX0_fillFilter rfl ml_RX0_104 in_mX0_fillFilter se_mX0_fillFilter (hS.n 23 rfl) (hS.k 23 0 rfl) (by decide) rfl (Nat.le_of_ble_eq_true rfl) (by decide) (by decide) (by decide) (s_mX0_fillFilter hS h) (fun r6 I5 J9 h => ?_)
    obtain ⟨rfl, h⟩ := h
    obtain ⟨hz, h⟩ := h
    exact V_zret dX0_fill_55 rfl (q_nz hz) (by decide) (by decide) ⟨_, rfl, rfl, rfl, h⟩
  by_cases hc2 : r1 = 2
  · replace h := h.2.2.1 hc2
    refine V_tableIn 56 dX0_fill_8 (by rw [hc2]; decide) (by rw [hc2]; decide) (by rw [hc2]; first | done | rfl) rfl ?_
    refine V_aload_n dX0_fill_56 rfl rfl ?_
    refine V_getr dX0_fill_57 fl_RX0_15 (hS.n 23 rfl) (hS.k 23 0 rfl) rfl (hS.r 23 1 15 rfl) ?_
    refine V_iload_n dX0_fill_60 rfl rfl ?_
    refine V_callVi (st := []) [.int a1] dX0_fill_61 ok_mX2_kindOf rfl ml_RX0_107 in_mX2_kindOf se_mX2_kindOf (hS.n 15 rfl) (hS.k 15 2 rfl) (by decide) rfl (Nat.le_of_ble_eq_true rfl) (by decide) (by decide) (by decide) (s_mX2_kindOf hS h) (fun r7 I9 J9 h => ?_)
    obtain ⟨rfl, rfl, h⟩ := h
    refine V_if_eq 79 dX0_fill_64 rfl (fun hc => ?_) (fun hc => ?_)
    · replace h := h.1 hc
      refine V_aload_n dX0_fill_79 rfl rfl ?_
      refine V_iload_n dX0_fill_80 rfl rfl ?_
      refine V_callVi (st := []) [.int a1] dX0_fill_81 ok_mX0_fillSideBySide rfl ml_RX0_110 in_mX0_fillSideBySide se_mX0_fillSideBySide (hS.n 23 rfl) (hS.k 23 0 rfl) (by decide) rfl (Nat.le_of_ble_eq_true rfl) (by decide) (by decide) (by decide) (s_mX0_fillSideBySide hS h) (fun r9 I8 J9 h => ?_)
      obtain ⟨rfl, h⟩ := h
      refine V_goto 92 dX0_fill_84 rfl ?_
      obtain ⟨hz, h⟩ := h
      exact V_zret dX0_fill_92 rfl (q_nz hz) (by decide) (by decide) ⟨_, rfl, rfl, rfl, h⟩
    · replace h := h.2 hc
      refine V_aload_n dX0_fill_67 rfl rfl ?_
      refine V_getr dX0_fill_68 fl_RX0_15 (hS.n 23 rfl) (hS.k 23 0 rfl) rfl (hS.r 23 1 15 rfl) ?_
      refine V_iload_n dX0_fill_71 rfl rfl ?_
      refine V_callVi (st := []) [.int a1] dX0_fill_72 ok_mX2_kindOf rfl ml_RX0_107 in_mX2_kindOf se_mX2_kindOf (hS.n 15 rfl) (hS.k 15 2 rfl) (by decide) rfl (Nat.le_of_ble_eq_true rfl) (by decide) (by decide) (by decide) (s_mX2_kindOf hS h) (fun r10 I9 J9 h => ?_)
      obtain ⟨rfl, rfl, h⟩ := h
      refine V_iconst (v := 1) dX0_fill_75 (by decide) ?_
      refine V_icmp_ne 87 dX0_fill_76 rfl (fun hc => ?_) (fun hc => ?_)
      · replace h := h.1 hc
        refine V_aload_n dX0_fill_87 rfl rfl ?_
        refine V_iload_n dX0_fill_88 rfl rfl ?_
        refine V_callVi (st := []) [.int a1] dX0_fill_89 ok_mX0_fillStaying rfl ml_RX0_113 in_mX0_fillStaying se_mX0_fillStaying (hS.n 23 rfl) (hS.k 23 0 rfl) (by decide) rfl (Nat.le_of_ble_eq_true rfl) (by decide) (by decide) (by decide) (s_mX0_fillStaying hS h) (fun r12 I11 J9 h => ?_)
        obtain ⟨rfl, h⟩ := h
        obtain ⟨hz, h⟩ := h
        exact V_zret dX0_fill_92 rfl (q_nz hz) (by decide) (by decide) ⟨_, rfl, rfl, rfl, h⟩
      · replace h := h.2 hc
        refine V_aload_n dX0_fill_79 rfl rfl ?_
        refine V_iload_n dX0_fill_80 rfl rfl ?_
        refine V_callVi (st := []) [.int a1] dX0_fill_81 ok_mX0_fillSideBySide rfl ml_RX0_110 in_mX0_fillSideBySide se_mX0_fillSideBySide (hS.n 23 rfl) (hS.k 23 0 rfl) (by decide) rfl (Nat.le_of_ble_eq_true rfl) (by decide) (by decide) (by decide) (s_mX0_fillSideBySide hS h) (fun r14 I13 J9 h => ?_)
        obtain ⟨rfl, h⟩ := h
        refine V_goto 92 dX0_fill_84 rfl ?_
        obtain ⟨hz, h⟩ := h
        exact V_zret dX0_fill_92 rfl (q_nz hz) (by decide) (by decide) ⟨_, rfl, rfl, rfl, h⟩
  by_cases hc3 : r1 = 3
  · replace h := h.2.2.2.1 hc3
    refine V_tableIn 93 dX0_fill_8 (by rw [hc3]; decide) (by rw [hc3]; decide) (by rw [hc3]; first | done | rfl) rfl ?_
    refine V_aload_n dX0_fill_93 rfl rfl ?_
    refine V_iload_n dX0_fill_94 rfl rfl ?_
    refine V_callVi (st := []) [.int a1] dX0_fill_95 ok_mX0_fillGroup rfl ml_RX0_116 in_mX0_fillGroup se_mX0_fillGroup (hS.n 23 rfl) (hS.k 23 0 rfl) (by decide) rfl (Nat.le_of_ble_eq_true rfl) (by decide) (by decide) (by decide) (s_mX0_fillGroup hS h) (fun r16 I15 J9 h => ?_)
    obtain ⟨rfl, h⟩ := h
    obtain ⟨hz, h⟩ := h
    exact V_zret dX0_fill_98 rfl (q_nz hz) (by decide) (by decide) ⟨_, rfl, rfl, rfl, h⟩
  by_cases hc4 : r1 = 4
  · replace h := h.2.2.2.2.1 hc4
    refine V_tableIn 99 dX0_fill_8 (by rw [hc4]; decide) (by rw [hc4]; decide) (by rw [hc4]; first | done | rfl) rfl ?_
    refine V_aload_n dX0_fill_99 rfl rfl ?_
    refine V_iload_n dX0_fill_100 rfl rfl ?_
    refine V_callVi (st := []) [.int a1] dX0_fill_101 ok_mX0_fillBag rfl ml_RX0_119 in_mX0_fillBag se_mX0_fillBag (hS.n 23 rfl) (hS.k 23 0 rfl) (by decide) rfl (Nat.le_of_ble_eq_true rfl) (by decide) (by decide) (by decide) (s_mX0_fillBag hS h) (fun r18 I17 J9 h => ?_)
    obtain ⟨rfl, h⟩ := h
    obtain ⟨hz, h⟩ := h
    exact V_zret dX0_fill_104 rfl (q_nz hz) (by decide) (by decide) ⟨_, rfl, rfl, rfl, h⟩
  replace h := h.2.2.2.2.2 hc0 hc1 hc2 hc3 hc4
  have n0 := q_tsw (c := 0) hc0 (by decide) (by decide)
  have n1 := q_tsw (c := 1) hc1 (by decide) (by decide)
  have n2 := q_tsw (c := 2) hc2 (by decide) (by decide)
  have n3 := q_tsw (c := 3) hc3 (by decide) (by decide)
  have n4 := q_tsw (c := 4) hc4 (by decide) (by decide)
  refine V_tableOut 105 dX0_fill_8 (by omega) rfl ?_
  refine V_iconst (v := 0) dX0_fill_105 (by decide) ?_
  exact V_zret dX0_fill_106 rfl (by decide) (by decide) (by decide) ⟨_, rfl, rfl, rfl, h⟩
def wX0_stepsOf (a1 : Int32) (I : QI) (post : Int32 → Prop) : Prop := ((a1 < 0 → post 0) ∧ (¬ a1 < 0 → ((24 ≤ a1 → post 0) ∧ (¬ 24 ≤ a1 → (vp_in a1 24 ∧ post (I 26 (a1).toNatClampNeg))))))
set_option maxRecDepth 100000 in
set_option maxHeartbeats 4000000 in
theorem s_mX0_stepsOf {X : QX} {S : QS} {a1 : Int32} {I : QI} {J : QJ} {post : Int32 → Prop} (hS : Sh S) (h : wX0_stepsOf a1 I post) : CX X mX0_stepsOf 0 0 0 [.ref 23, .int a1] S I J (q_Pi S (fun r I2 J2 => I = I2 ∧ J = J2 ∧ post r)) := by
  refine CX.of (lo := [(0, .ref 23), (1, .int a1)]) ok_mX0_stepsOf rfl (Nat.le_of_ble_eq_true rfl) rfl ?_
  replace h : ((a1 < 0 → post 0) ∧ (¬ a1 < 0 → ((24 ≤ a1 → post 0) ∧ (¬ 24 ≤ a1 → (vp_in a1 24 ∧ post (I 26 (a1).toNatClampNeg)))))) := h
  refine V_iload_n dX0_stepsOf_0 rfl rfl ?_
  refine V_if_lt 19 dX0_stepsOf_1 rfl (fun hc => ?_) (fun hc => ?_)
  · replace h := h.1 hc
    refine V_iconst (v := 0) dX0_stepsOf_19 (by decide) ?_
    exact V_iret dX0_stepsOf_20 rfl (by decide) (by decide) ⟨_, rfl, rfl, rfl, rfl, h⟩
  · replace h := h.2 hc
    refine V_iload_n dX0_stepsOf_4 rfl rfl ?_
    refine V_bipush (v := 24) dX0_stepsOf_5 (by decide) ?_
    refine V_icmp_ge 19 dX0_stepsOf_7 rfl (fun hc => ?_) (fun hc => ?_)
    · replace h := h.1 hc
      refine V_iconst (v := 0) dX0_stepsOf_19 (by decide) ?_
      exact V_iret dX0_stepsOf_20 rfl (by decide) (by decide) ⟨_, rfl, rfl, rfl, rfl, h⟩
    · replace h := h.2 hc
      refine V_aload_n dX0_stepsOf_10 rfl rfl ?_
      refine V_getr dX0_stepsOf_11 fl_RX0_26 (hS.n 23 rfl) (hS.k 23 0 rfl) rfl (hS.r 23 4 26 rfl) ?_
      refine V_iload_n dX0_stepsOf_14 rfl rfl ?_
      obtain ⟨hb, h⟩ := h
      refine V_iald dX0_stepsOf_15 (hS.n 26 rfl) (hS.k 26 9 rfl) (by rw [(hS.z 26 24 rfl)]; exact hb) ?_
      refine V_goto 20 dX0_stepsOf_16 rfl ?_
      exact V_iret dX0_stepsOf_20 rfl (by decide) (by decide) ⟨_, rfl, rfl, rfl, rfl, h⟩
def wX0_finish (a1 : Int32) (a2 : Int32) (I : QI) (post : QI → Prop) : Prop := ((a1 < 0 → post I) ∧ (¬ a1 < 0 → ((a1 < 24 → ((¬ a2 = 0 → (vp_in a1 24 ∧ (∀ v1 : Int32, v1 = (I 25 (a1).toNatClampNeg) → (wX2_typeOf a1 I (fun r2 => ((r2 = 0 → (vp_in a1 24 ∧ (∀ I3 : QI, I3 = q_u2 I 26 (a1).toNatClampNeg (if 100001 < v1 then 100001 else v1) → post I3))) ∧ (¬ r2 = 0 → (wX2_firstOf a1 I (fun r4 => (wX0_stepsOf r4 I (fun r5 => (wX2_secondOf a1 I (fun r6 => (wX0_stepsOf r6 I (fun r7 => (∀ v8 : Int32, v8 = (v1 + (r5 + r7)) → (vp_in a1 24 ∧ (∀ I9 : QI, I9 = q_u2 I 26 (a1).toNatClampNeg (if 100001 < v8 then 100001 else v8) → post I9)))))))))))))))))) ∧ (a2 = 0 → (vp_in a1 24 ∧ (∀ I10 : QI, I10 = q_u2 I 25 (a1).toNatClampNeg (-1) → (vp_in a1 24 ∧ (∀ v11 : Int32, v11 = (I10 25 (a1).toNatClampNeg) → (wX2_typeOf a1 I10 (fun r12 => ((r12 = 0 → (vp_in a1 24 ∧ (∀ I13 : QI, I13 = q_u2 I10 26 (a1).toNatClampNeg (if 100001 < v11 then 100001 else v11) → post I13))) ∧ (¬ r12 = 0 → (wX2_firstOf a1 I10 (fun r14 => (wX0_stepsOf r14 I10 (fun r15 => (wX2_secondOf a1 I10 (fun r16 => (wX0_stepsOf r16 I10 (fun r17 => (∀ v18 : Int32, v18 = (v11 + (r15 + r17)) → (vp_in a1 24 ∧ (∀ I19 : QI, I19 = q_u2 I10 26 (a1).toNatClampNeg (if 100001 < v18 then 100001 else v18) → post I19)))))))))))))))))))))) ∧ (¬ a1 < 24 → post I))))
set_option maxRecDepth 100000 in
set_option maxHeartbeats 4000000 in
theorem s_mX0_finish {X : QX} {S : QS} {a1 : Int32} {a2 : Int32} {I : QI} {J : QJ} {post : QI → Prop} (hS : Sh S) (h : wX0_finish a1 a2 I post) : CX X mX0_finish 1 0 0 [.ref 23, .int a1, .int a2] S I J (q_Pv S (fun I2 J2 => J = J2 ∧ post I2)) := by
  refine CX.of (lo := [(0, .ref 23), (1, .int a1), (2, .int a2)]) ok_mX0_finish rfl (Nat.le_of_ble_eq_true rfl) rfl ?_
  replace h : ((a1 < 0 → post I) ∧ (¬ a1 < 0 → ((a1 < 24 → ((¬ a2 = 0 → (vp_in a1 24 ∧ (∀ v1 : Int32, v1 = (I 25 (a1).toNatClampNeg) → (wX2_typeOf a1 I (fun r2 => ((r2 = 0 → (vp_in a1 24 ∧ (∀ I3 : QI, I3 = q_u2 I 26 (a1).toNatClampNeg (if 100001 < v1 then 100001 else v1) → post I3))) ∧ (¬ r2 = 0 → (wX2_firstOf a1 I (fun r4 => (wX0_stepsOf r4 I (fun r5 => (wX2_secondOf a1 I (fun r6 => (wX0_stepsOf r6 I (fun r7 => (∀ v8 : Int32, v8 = (v1 + (r5 + r7)) → (vp_in a1 24 ∧ (∀ I9 : QI, I9 = q_u2 I 26 (a1).toNatClampNeg (if 100001 < v8 then 100001 else v8) → post I9)))))))))))))))))) ∧ (a2 = 0 → (vp_in a1 24 ∧ (∀ I10 : QI, I10 = q_u2 I 25 (a1).toNatClampNeg (-1) → (vp_in a1 24 ∧ (∀ v11 : Int32, v11 = (I10 25 (a1).toNatClampNeg) → (wX2_typeOf a1 I10 (fun r12 => ((r12 = 0 → (vp_in a1 24 ∧ (∀ I13 : QI, I13 = q_u2 I10 26 (a1).toNatClampNeg (if 100001 < v11 then 100001 else v11) → post I13))) ∧ (¬ r12 = 0 → (wX2_firstOf a1 I10 (fun r14 => (wX0_stepsOf r14 I10 (fun r15 => (wX2_secondOf a1 I10 (fun r16 => (wX0_stepsOf r16 I10 (fun r17 => (∀ v18 : Int32, v18 = (v11 + (r15 + r17)) → (vp_in a1 24 ∧ (∀ I19 : QI, I19 = q_u2 I10 26 (a1).toNatClampNeg (if 100001 < v18 then 100001 else v18) → post I19)))))))))))))))))))))) ∧ (¬ a1 < 24 → post I)))) := h
  refine V_iload_n dX0_finish_0 rfl rfl ?_
  refine V_if_lt 10 dX0_finish_1 rfl (fun hc => ?_) (fun hc => ?_)
  · replace h := h.1 hc
    exact V_vret dX0_finish_10 rfl (by decide) (by decide) ⟨rfl, rfl, rfl, h⟩
  · replace h := h.2 hc
    refine V_iload_n dX0_finish_4 rfl rfl ?_
    refine V_bipush (v := 24) dX0_finish_5 (by decide) ?_
    refine V_icmp_lt 11 dX0_finish_7 rfl (fun hc => ?_) (fun hc => ?_)
    · replace h := h.1 hc
      refine V_iload_n dX0_finish_11 rfl rfl ?_
      refine V_if_ne 22 dX0_finish_12 rfl (fun hc => ?_) (fun hc => ?_)
      · replace h := h.1 hc
        refine V_aload_n dX0_finish_22 rfl rfl ?_
        refine V_getr dX0_finish_23 fl_RX0_23 (hS.n 23 rfl) (hS.k 23 0 rfl) rfl (hS.r 23 3 25 rfl) ?_
        refine V_iload_n dX0_finish_26 rfl rfl ?_
        obtain ⟨hb, h⟩ := h
        refine V_iald dX0_finish_27 (hS.n 25 rfl) (hS.k 25 9 rfl) (by rw [(hS.z 25 24 rfl)]; exact hb) ?_
        refine V_topi (fun v1 e_v1 => ?_)
        replace h := h v1 e_v1
        refine V_istore_n (lo2 := [(3, .int v1), (0, .ref 23), (1, .int a1), (2, .int a2)]) dX0_finish_28 rfl (by decide) rfl ?_
        refine V_aload_n dX0_finish_29 rfl rfl ?_
        refine V_getr dX0_finish_30 fl_RX0_15 (hS.n 23 rfl) (hS.k 23 0 rfl) rfl (hS.r 23 1 15 rfl) ?_
        refine V_iload_n dX0_finish_33 rfl rfl ?_
        refine V_callVi (st := []) [.int a1] dX0_finish_34 ok_mX2_typeOf rfl ml_RX0_82 in_mX2_typeOf se_mX2_typeOf (hS.n 15 rfl) (hS.k 15 2 rfl) (by decide) rfl (Nat.le_of_ble_eq_true rfl) (by decide) (by decide) (by decide) (s_mX2_typeOf hS h) (fun r2 I9 J9 h => ?_)
        obtain ⟨rfl, rfl, h⟩ := h
        refine V_if_eq 68 dX0_finish_37 rfl (fun hc => ?_) (fun hc => ?_)
        · replace h := h.1 hc
          refine V_aload_n dX0_finish_68 rfl rfl ?_
          refine V_getr dX0_finish_69 fl_RX0_26 (hS.n 23 rfl) (hS.k 23 0 rfl) rfl (hS.r 23 4 26 rfl) ?_
          refine V_iload_n dX0_finish_72 rfl rfl ?_
          refine V_iload_n dX0_finish_73 rfl rfl ?_
          refine V_ldc dX0_finish_74 co_RX0_94 ?_
          refine V_min dX0_finish_76 ml_RX0_95 mm_min.1 mm_min.2.1 mm_min.2.2 (Nat.le_of_ble_eq_true rfl) (by decide) (by decide) ?_
          obtain ⟨hb, h⟩ := h
          refine V_iast dX0_finish_79 (hS.n 26 rfl) (hS.k 26 9 rfl) (by rw [(hS.z 26 24 rfl)]; exact hb) ?_
          refine V_memI (fun I3 e_I3 => ?_)
          replace h := h I3 e_I3
          exact V_vret dX0_finish_80 rfl (by decide) (by decide) ⟨rfl, rfl, rfl, h⟩
        · replace h := h.2 hc
          refine V_iload_n dX0_finish_40 rfl rfl ?_
          refine V_aload_n dX0_finish_41 rfl rfl ?_
          refine V_aload_n dX0_finish_42 rfl rfl ?_
          refine V_getr dX0_finish_43 fl_RX0_15 (hS.n 23 rfl) (hS.k 23 0 rfl) rfl (hS.r 23 1 15 rfl) ?_
          refine V_iload_n dX0_finish_46 rfl rfl ?_
          refine V_callVi (st := [.ref 23, .int v1]) [.int a1] dX0_finish_47 ok_mX2_firstOf rfl ml_RX0_85 in_mX2_firstOf se_mX2_firstOf (hS.n 15 rfl) (hS.k 15 2 rfl) (by decide) rfl (Nat.le_of_ble_eq_true rfl) (by decide) (by decide) (by decide) (s_mX2_firstOf hS h) (fun r4 I9 J9 h => ?_)
          obtain ⟨rfl, rfl, h⟩ := h
          refine V_callVi (st := [.int v1]) [.int r4] dX0_finish_50 ok_mX0_stepsOf rfl ml_RX0_69 in_mX0_stepsOf se_mX0_stepsOf (hS.n 23 rfl) (hS.k 23 0 rfl) (by decide) rfl (Nat.le_of_ble_eq_true rfl) (by decide) (by decide) (by decide) (s_mX0_stepsOf hS h) (fun r5 I9 J9 h => ?_)
          obtain ⟨rfl, rfl, h⟩ := h
          refine V_aload_n dX0_finish_53 rfl rfl ?_
          refine V_aload_n dX0_finish_54 rfl rfl ?_
          refine V_getr dX0_finish_55 fl_RX0_15 (hS.n 23 rfl) (hS.k 23 0 rfl) rfl (hS.r 23 1 15 rfl) ?_
          refine V_iload_n dX0_finish_58 rfl rfl ?_
          refine V_callVi (st := [.ref 23, .int r5, .int v1]) [.int a1] dX0_finish_59 ok_mX2_secondOf rfl ml_RX0_91 in_mX2_secondOf se_mX2_secondOf (hS.n 15 rfl) (hS.k 15 2 rfl) (by decide) rfl (Nat.le_of_ble_eq_true rfl) (by decide) (by decide) (by decide) (s_mX2_secondOf hS h) (fun r6 I9 J9 h => ?_)
          obtain ⟨rfl, rfl, h⟩ := h
          refine V_callVi (st := [.int r5, .int v1]) [.int r6] dX0_finish_62 ok_mX0_stepsOf rfl ml_RX0_69 in_mX0_stepsOf se_mX0_stepsOf (hS.n 23 rfl) (hS.k 23 0 rfl) (by decide) rfl (Nat.le_of_ble_eq_true rfl) (by decide) (by decide) (by decide) (s_mX0_stepsOf hS h) (fun r7 I9 J9 h => ?_)
          obtain ⟨rfl, rfl, h⟩ := h
          refine V_iadd dX0_finish_65 ?_
          refine V_iadd dX0_finish_66 ?_
          refine V_topi (fun v8 e_v8 => ?_)
          replace h := h v8 e_v8
          refine V_istore_n (lo2 := [(3, .int v8), (0, .ref 23), (1, .int a1), (2, .int a2)]) dX0_finish_67 rfl (by decide) rfl ?_
          refine V_aload_n dX0_finish_68 rfl rfl ?_
          refine V_getr dX0_finish_69 fl_RX0_26 (hS.n 23 rfl) (hS.k 23 0 rfl) rfl (hS.r 23 4 26 rfl) ?_
          refine V_iload_n dX0_finish_72 rfl rfl ?_
          refine V_iload_n dX0_finish_73 rfl rfl ?_
          refine V_ldc dX0_finish_74 co_RX0_94 ?_
          refine V_min dX0_finish_76 ml_RX0_95 mm_min.1 mm_min.2.1 mm_min.2.2 (Nat.le_of_ble_eq_true rfl) (by decide) (by decide) ?_
          obtain ⟨hb, h⟩ := h
          refine V_iast dX0_finish_79 (hS.n 26 rfl) (hS.k 26 9 rfl) (by rw [(hS.z 26 24 rfl)]; exact hb) ?_
          refine V_memI (fun I9 e_I9 => ?_)
          replace h := h I9 e_I9
          exact V_vret dX0_finish_80 rfl (by decide) (by decide) ⟨rfl, rfl, rfl, h⟩
      · replace h := h.2 hc
        refine V_aload_n dX0_finish_15 rfl rfl ?_
        refine V_getr dX0_finish_16 fl_RX0_23 (hS.n 23 rfl) (hS.k 23 0 rfl) rfl (hS.r 23 3 25 rfl) ?_
        refine V_iload_n dX0_finish_19 rfl rfl ?_
        refine V_iconst (v := (-1)) dX0_finish_20 (by decide) ?_
        obtain ⟨hb, h⟩ := h
        refine V_iast dX0_finish_21 (hS.n 25 rfl) (hS.k 25 9 rfl) (by rw [(hS.z 25 24 rfl)]; exact hb) ?_
        refine V_memI (fun I10 e_I10 => ?_)
        replace h := h I10 e_I10
        refine V_aload_n dX0_finish_22 rfl rfl ?_
        refine V_getr dX0_finish_23 fl_RX0_23 (hS.n 23 rfl) (hS.k 23 0 rfl) rfl (hS.r 23 3 25 rfl) ?_
        refine V_iload_n dX0_finish_26 rfl rfl ?_
        obtain ⟨hb, h⟩ := h
        refine V_iald dX0_finish_27 (hS.n 25 rfl) (hS.k 25 9 rfl) (by rw [(hS.z 25 24 rfl)]; exact hb) ?_
        refine V_topi (fun v11 e_v11 => ?_)
        replace h := h v11 e_v11
        refine V_istore_n (lo2 := [(3, .int v11), (0, .ref 23), (1, .int a1), (2, .int a2)]) dX0_finish_28 rfl (by decide) rfl ?_
        refine V_aload_n dX0_finish_29 rfl rfl ?_
        refine V_getr dX0_finish_30 fl_RX0_15 (hS.n 23 rfl) (hS.k 23 0 rfl) rfl (hS.r 23 1 15 rfl) ?_
        refine V_iload_n dX0_finish_33 rfl rfl ?_
        refine V_callVi (st := []) [.int a1] dX0_finish_34 ok_mX2_typeOf rfl ml_RX0_82 in_mX2_typeOf se_mX2_typeOf (hS.n 15 rfl) (hS.k 15 2 rfl) (by decide) rfl (Nat.le_of_ble_eq_true rfl) (by decide) (by decide) (by decide) (s_mX2_typeOf hS h) (fun r12 I9 J9 h => ?_)
        obtain ⟨rfl, rfl, h⟩ := h
        refine V_if_eq 68 dX0_finish_37 rfl (fun hc => ?_) (fun hc => ?_)
        · replace h := h.1 hc
          refine V_aload_n dX0_finish_68 rfl rfl ?_
          refine V_getr dX0_finish_69 fl_RX0_26 (hS.n 23 rfl) (hS.k 23 0 rfl) rfl (hS.r 23 4 26 rfl) ?_
          refine V_iload_n dX0_finish_72 rfl rfl ?_
          refine V_iload_n dX0_finish_73 rfl rfl ?_
          refine V_ldc dX0_finish_74 co_RX0_94 ?_
          refine V_min dX0_finish_76 ml_RX0_95 mm_min.1 mm_min.2.1 mm_min.2.2 (Nat.le_of_ble_eq_true rfl) (by decide) (by decide) ?_
          obtain ⟨hb, h⟩ := h
          refine V_iast dX0_finish_79 (hS.n 26 rfl) (hS.k 26 9 rfl) (by rw [(hS.z 26 24 rfl)]; exact hb) ?_
          refine V_memI (fun I13 e_I13 => ?_)
          replace h := h I13 e_I13
          exact V_vret dX0_finish_80 rfl (by decide) (by decide) ⟨rfl, rfl, rfl, h⟩
        · replace h := h.2 hc
          refine V_iload_n dX0_finish_40 rfl rfl ?_
          refine V_aload_n dX0_finish_41 rfl rfl ?_
          refine V_aload_n dX0_finish_42 rfl rfl ?_
          refine V_getr dX0_finish_43 fl_RX0_15 (hS.n 23 rfl) (hS.k 23 0 rfl) rfl (hS.r 23 1 15 rfl) ?_
          refine V_iload_n dX0_finish_46 rfl rfl ?_
          refine V_callVi (st := [.ref 23, .int v11]) [.int a1] dX0_finish_47 ok_mX2_firstOf rfl ml_RX0_85 in_mX2_firstOf se_mX2_firstOf (hS.n 15 rfl) (hS.k 15 2 rfl) (by decide) rfl (Nat.le_of_ble_eq_true rfl) (by decide) (by decide) (by decide) (s_mX2_firstOf hS h) (fun r14 I9 J9 h => ?_)
          obtain ⟨rfl, rfl, h⟩ := h
          refine V_callVi (st := [.int v11]) [.int r14] dX0_finish_50 ok_mX0_stepsOf rfl ml_RX0_69 in_mX0_stepsOf se_mX0_stepsOf (hS.n 23 rfl) (hS.k 23 0 rfl) (by decide) rfl (Nat.le_of_ble_eq_true rfl) (by decide) (by decide) (by decide) (s_mX0_stepsOf hS h) (fun r15 I9 J9 h => ?_)
          obtain ⟨rfl, rfl, h⟩ := h
          refine V_aload_n dX0_finish_53 rfl rfl ?_
          refine V_aload_n dX0_finish_54 rfl rfl ?_
          refine V_getr dX0_finish_55 fl_RX0_15 (hS.n 23 rfl) (hS.k 23 0 rfl) rfl (hS.r 23 1 15 rfl) ?_
          refine V_iload_n dX0_finish_58 rfl rfl ?_
          refine V_callVi (st := [.ref 23, .int r15, .int v11]) [.int a1] dX0_finish_59 ok_mX2_secondOf rfl ml_RX0_91 in_mX2_secondOf se_mX2_secondOf (hS.n 15 rfl) (hS.k 15 2 rfl) (by decide) rfl (Nat.le_of_ble_eq_true rfl) (by decide) (by decide) (by decide) (s_mX2_secondOf hS h) (fun r16 I9 J9 h => ?_)
          obtain ⟨rfl, rfl, h⟩ := h
          refine V_callVi (st := [.int r15, .int v11]) [.int r16] dX0_finish_62 ok_mX0_stepsOf rfl ml_RX0_69 in_mX0_stepsOf se_mX0_stepsOf (hS.n 23 rfl) (hS.k 23 0 rfl) (by decide) rfl (Nat.le_of_ble_eq_true rfl) (by decide) (by decide) (by decide) (s_mX0_stepsOf hS h) (fun r17 I9 J9 h => ?_)
          obtain ⟨rfl, rfl, h⟩ := h
          refine V_iadd dX0_finish_65 ?_
          refine V_iadd dX0_finish_66 ?_
          refine V_topi (fun v18 e_v18 => ?_)
          replace h := h v18 e_v18
          refine V_istore_n (lo2 := [(3, .int v18), (0, .ref 23), (1, .int a1), (2, .int a2)]) dX0_finish_67 rfl (by decide) rfl ?_
          refine V_aload_n dX0_finish_68 rfl rfl ?_
          refine V_getr dX0_finish_69 fl_RX0_26 (hS.n 23 rfl) (hS.k 23 0 rfl) rfl (hS.r 23 4 26 rfl) ?_
          refine V_iload_n dX0_finish_72 rfl rfl ?_
          refine V_iload_n dX0_finish_73 rfl rfl ?_
          refine V_ldc dX0_finish_74 co_RX0_94 ?_
          refine V_min dX0_finish_76 ml_RX0_95 mm_min.1 mm_min.2.1 mm_min.2.2 (Nat.le_of_ble_eq_true rfl) (by decide) (by decide) ?_
          obtain ⟨hb, h⟩ := h
          refine V_iast dX0_finish_79 (hS.n 26 rfl) (hS.k 26 9 rfl) (by rw [(hS.z 26 24 rfl)]; exact hb) ?_
          refine V_memI (fun I19 e_I19 => ?_)
          replace h := h I19 e_I19
          exact V_vret dX0_finish_80 rfl (by decide) (by decide) ⟨rfl, rfl, rfl, h⟩
    · replace h := h.2 hc
      exact V_vret dX0_finish_10 rfl (by decide) (by decide) ⟨rfl, rfl, rfl, h⟩
def wX0_want (a1 : Int32) (I : QI) (post : QI → Prop) : Prop := ((a1 < 0 → post I) ∧ (¬ a1 < 0 → ((24 ≤ a1 → post I) ∧ (¬ 24 ≤ a1 → (vp_in a1 24 ∧ (∀ I1 : QI, I1 = q_u2 I 28 (a1).toNatClampNeg 1 → post I1))))))
set_option maxRecDepth 100000 in
set_option maxHeartbeats 4000000 in
theorem s_mX0_want {X : QX} {S : QS} {a1 : Int32} {I : QI} {J : QJ} {post : QI → Prop} (hS : Sh S) (h : wX0_want a1 I post) : CX X mX0_want 0 0 0 [.ref 23, .int a1] S I J (q_Pv S (fun I2 J2 => J = J2 ∧ post I2)) := by
  refine CX.of (lo := [(0, .ref 23), (1, .int a1)]) ok_mX0_want rfl (Nat.le_of_ble_eq_true rfl) rfl ?_
  replace h : ((a1 < 0 → post I) ∧ (¬ a1 < 0 → ((24 ≤ a1 → post I) ∧ (¬ 24 ≤ a1 → (vp_in a1 24 ∧ (∀ I1 : QI, I1 = q_u2 I 28 (a1).toNatClampNeg 1 → post I1)))))) := h
  refine V_iload_n dX0_want_0 rfl rfl ?_
  refine V_if_lt 17 dX0_want_1 rfl (fun hc => ?_) (fun hc => ?_)
  · replace h := h.1 hc
    exact V_vret dX0_want_17 rfl (by decide) (by decide) ⟨rfl, rfl, rfl, h⟩
  · replace h := h.2 hc
    refine V_iload_n dX0_want_4 rfl rfl ?_
    refine V_bipush (v := 24) dX0_want_5 (by decide) ?_
    refine V_icmp_ge 17 dX0_want_7 rfl (fun hc => ?_) (fun hc => ?_)
    · replace h := h.1 hc
      exact V_vret dX0_want_17 rfl (by decide) (by decide) ⟨rfl, rfl, rfl, h⟩
    · replace h := h.2 hc
      refine V_aload_n dX0_want_10 rfl rfl ?_
      refine V_getr dX0_want_11 fl_RX0_32 (hS.n 23 rfl) (hS.k 23 0 rfl) rfl (hS.r 23 6 28 rfl) ?_
      refine V_iload_n dX0_want_14 rfl rfl ?_
      refine V_iconst (v := 1) dX0_want_15 (by decide) ?_
      obtain ⟨hb, h⟩ := h
      refine V_zast dX0_want_16 (hS.n 28 rfl) (hS.k 28 11 rfl) (by rw [(hS.z 28 24 rfl)]; exact hb) (q_vz (by decide)) ?_
      refine V_memI (fun I1 e_I1 => ?_)
      replace h := h I1 e_I1
      exact V_vret dX0_want_17 rfl (by decide) (by decide) ⟨rfl, rfl, rfl, h⟩
def wX0_markWanted_2 (a1 : Int32) (K30 : QI → Prop) (post : QI → Prop) : Nat → Int32 → QI → Prop
  | 0, _, _ => False
  | n + 1, x2, I => ((24 ≤ x2 → (K30 I)) ∧ (¬ 24 ≤ x2 → ((¬ x2 = a1 → (vp_in x2 24 ∧ (∀ I1 : QI, I1 = q_u2 I 28 (x2).toNatClampNeg 0 → (∀ v2 : Int32, v2 = (x2 + 1) → (wX0_markWanted_2 a1 K30 post n v2 I1))))) ∧ (x2 = a1 → (vp_in x2 24 ∧ (∀ I3 : QI, I3 = q_u2 I 28 (x2).toNatClampNeg 1 → (∀ v4 : Int32, v4 = (x2 + 1) → (wX0_markWanted_2 a1 K30 post n v4 I3))))))))
set_option maxRecDepth 100000 in
set_option maxHeartbeats 4000000 in
theorem swX0_markWanted_2 {X : QX} {S : QS} {a1 : Int32} {J : QJ} {K30 : QI → Prop} {post : QI → Prop} (hS : Sh S) (hK30 : ∀ (I : QI), K30 I → V X mX0_markWanted 1 0 0 (q_Pv S (fun I2 J2 => J = J2 ∧ post I2)) 30 [(0, .ref 23)] [] S I J 0 0) : ∀ (f : Nat) (x2 : Int32) (I : QI), wX0_markWanted_2 a1 K30 post f x2 I → V X mX0_markWanted 1 0 0 (q_Pv S (fun I2 J2 => J = J2 ∧ post I2)) 2 [(0, .ref 23), (1, .int a1), (2, .int x2)] [] S I J 0 0 := by
  intro f
  induction f with
  | zero => intro x2 I h; exact h.elim
  | succ n ih =>
    intro x2 I h
    replace h : ((24 ≤ x2 → (K30 I)) ∧ (¬ 24 ≤ x2 → ((¬ x2 = a1 → (vp_in x2 24 ∧ (∀ I1 : QI, I1 = q_u2 I 28 (x2).toNatClampNeg 0 → (∀ v2 : Int32, v2 = (x2 + 1) → (wX0_markWanted_2 a1 K30 post n v2 I1))))) ∧ (x2 = a1 → (vp_in x2 24 ∧ (∀ I3 : QI, I3 = q_u2 I 28 (x2).toNatClampNeg 1 → (∀ v4 : Int32, v4 = (x2 + 1) → (wX0_markWanted_2 a1 K30 post n v4 I3)))))))) := h
    refine V_iload_n dX0_markWanted_2 rfl rfl ?_
    refine V_bipush (v := 24) dX0_markWanted_3 (by decide) ?_
    refine V_icmp_ge 30 dX0_markWanted_5 rfl (fun hc => ?_) (fun hc => ?_)
    · replace h := h.1 hc
      refine V_sub (lo2 := [(0, .ref 23)]) [0] rfl ?_
      exact hK30 _ h
    · replace h := h.2 hc
      refine V_aload_n dX0_markWanted_8 rfl rfl ?_
      refine V_getr dX0_markWanted_9 fl_RX0_32 (hS.n 23 rfl) (hS.k 23 0 rfl) rfl (hS.r 23 6 28 rfl) ?_
      refine V_iload_n dX0_markWanted_12 rfl rfl ?_
      refine V_iload_n dX0_markWanted_13 rfl rfl ?_
      refine V_iload_n dX0_markWanted_14 rfl rfl ?_
      refine V_icmp_ne 22 dX0_markWanted_15 rfl (fun hc => ?_) (fun hc => ?_)
      · replace h := h.1 hc
        refine V_iconst (v := 0) dX0_markWanted_22 (by decide) ?_
        obtain ⟨hb, h⟩ := h
        refine V_zast dX0_markWanted_23 (hS.n 28 rfl) (hS.k 28 11 rfl) (by rw [(hS.z 28 24 rfl)]; exact hb) (q_vz (by decide)) ?_
        refine V_memI (fun I1 e_I1 => ?_)
        replace h := h I1 e_I1
        obtain ⟨v2, e_v2⟩ : ∃ z : Int32, z = (x2 + 1) := ⟨_, rfl⟩
        replace h := h v2 e_v2
        refine V_iinc (lo2 := [(2, .int v2), (0, .ref 23), (1, .int a1)]) 2 dX0_markWanted_24 rfl (v := v2) (by rw [e_v2]; first | done | rfl) (by decide) rfl ?_
        refine V_goto 2 dX0_markWanted_27 rfl ?_
        refine V_sub (lo2 := [(0, .ref 23), (1, .int a1), (2, .int v2)]) [1, 2, 0] rfl ?_
        exact ih _ _ h
      · replace h := h.2 hc
        refine V_iconst (v := 1) dX0_markWanted_18 (by decide) ?_
        refine V_goto 23 dX0_markWanted_19 rfl ?_
        obtain ⟨hb, h⟩ := h
        refine V_zast dX0_markWanted_23 (hS.n 28 rfl) (hS.k 28 11 rfl) (by rw [(hS.z 28 24 rfl)]; exact hb) (q_vz (by decide)) ?_
        refine V_memI (fun I3 e_I3 => ?_)
        replace h := h I3 e_I3
        obtain ⟨v4, e_v4⟩ : ∃ z : Int32, z = (x2 + 1) := ⟨_, rfl⟩
        replace h := h v4 e_v4
        refine V_iinc (lo2 := [(2, .int v4), (0, .ref 23), (1, .int a1)]) 2 dX0_markWanted_24 rfl (v := v4) (by rw [e_v4]; first | done | rfl) (by decide) rfl ?_
        refine V_goto 2 dX0_markWanted_27 rfl ?_
        refine V_sub (lo2 := [(0, .ref 23), (1, .int a1), (2, .int v4)]) [1, 2, 0] rfl ?_
        exact ih _ _ h
def wX0_markWanted_33 (a1 : Int32) (post : QI → Prop) : Nat → Int32 → QI → Prop
  | 0, _, _ => False
  | n + 1, x2, I => ((x2 < 0 → post I) ∧ (¬ x2 < 0 → (vp_in x2 24 ∧ (((I 28 (x2).toNatClampNeg) = 0 → (vp_in x2 24 ∧ (∀ I6 : QI, I6 = q_u2 I 28 (x2).toNatClampNeg 0 → (vp_in x2 24 ∧ (((I6 28 (x2).toNatClampNeg) = 0 → (∀ v7 : Int32, v7 = (x2 + (-1)) → (wX0_markWanted_33 a1 post n v7 I6))) ∧ (¬ (I6 28 (x2).toNatClampNeg) = 0 → (wX2_typeOf x2 I6 (fun r8 => ((r8 = 0 → (∀ v9 : Int32, v9 = (x2 + (-1)) → (wX0_markWanted_33 a1 post n v9 I6))) ∧ (¬ r8 = 0 → (wX2_firstOf x2 I6 (fun r10 => (wX0_want r10 I6 (fun I11 => (wX2_secondOf x2 I11 (fun r12 => (wX0_want r12 I11 (fun I13 => (∀ v14 : Int32, v14 = (x2 + (-1)) → (wX0_markWanted_33 a1 post n v14 I13)))))))))))))))))))) ∧ (¬ (I 28 (x2).toNatClampNeg) = 0 → (vp_in x2 24 ∧ (wX4_changes I (fun r15 => (((I 27 (x2).toNatClampNeg) = r15 → (vp_in x2 24 ∧ (∀ I16 : QI, I16 = q_u2 I 28 (x2).toNatClampNeg 0 → (vp_in x2 24 ∧ (((I16 28 (x2).toNatClampNeg) = 0 → (∀ v17 : Int32, v17 = (x2 + (-1)) → (wX0_markWanted_33 a1 post n v17 I16))) ∧ (¬ (I16 28 (x2).toNatClampNeg) = 0 → (wX2_typeOf x2 I16 (fun r18 => ((r18 = 0 → (∀ v19 : Int32, v19 = (x2 + (-1)) → (wX0_markWanted_33 a1 post n v19 I16))) ∧ (¬ r18 = 0 → (wX2_firstOf x2 I16 (fun r20 => (wX0_want r20 I16 (fun I21 => (wX2_secondOf x2 I21 (fun r22 => (wX0_want r22 I21 (fun I23 => (∀ v24 : Int32, v24 = (x2 + (-1)) → (wX0_markWanted_33 a1 post n v24 I23)))))))))))))))))))) ∧ (¬ (I 27 (x2).toNatClampNeg) = r15 → (vp_in x2 24 ∧ (∀ I25 : QI, I25 = q_u2 I 28 (x2).toNatClampNeg 1 → (vp_in x2 24 ∧ (((I25 28 (x2).toNatClampNeg) = 0 → (∀ v26 : Int32, v26 = (x2 + (-1)) → (wX0_markWanted_33 a1 post n v26 I25))) ∧ (¬ (I25 28 (x2).toNatClampNeg) = 0 → (wX2_typeOf x2 I25 (fun r27 => ((r27 = 0 → (∀ v28 : Int32, v28 = (x2 + (-1)) → (wX0_markWanted_33 a1 post n v28 I25))) ∧ (¬ r27 = 0 → (wX2_firstOf x2 I25 (fun r29 => (wX0_want r29 I25 (fun I30 => (wX2_secondOf x2 I30 (fun r31 => (wX0_want r31 I30 (fun I32 => (∀ v33 : Int32, v33 = (x2 + (-1)) → (wX0_markWanted_33 a1 post n v33 I32)))))))))))))))))))))))))))))
set_option maxRecDepth 100000 in
set_option maxHeartbeats 4000000 in
theorem swX0_markWanted_33 {X : QX} {S : QS} {a1 : Int32} {J : QJ} {post : QI → Prop} (hS : Sh S) : ∀ (f : Nat) (x2 : Int32) (I : QI), wX0_markWanted_33 a1 post f x2 I → V X mX0_markWanted 1 0 0 (q_Pv S (fun I2 J2 => J = J2 ∧ post I2)) 33 [(0, .ref 23), (2, .int x2)] [] S I J 0 0 := by
  intro f
  induction f with
  | zero => intro x2 I h; exact h.elim
  | succ n ih =>
    intro x2 I h
    replace h : ((x2 < 0 → post I) ∧ (¬ x2 < 0 → (vp_in x2 24 ∧ (((I 28 (x2).toNatClampNeg) = 0 → (vp_in x2 24 ∧ (∀ I6 : QI, I6 = q_u2 I 28 (x2).toNatClampNeg 0 → (vp_in x2 24 ∧ (((I6 28 (x2).toNatClampNeg) = 0 → (∀ v7 : Int32, v7 = (x2 + (-1)) → (wX0_markWanted_33 a1 post n v7 I6))) ∧ (¬ (I6 28 (x2).toNatClampNeg) = 0 → (wX2_typeOf x2 I6 (fun r8 => ((r8 = 0 → (∀ v9 : Int32, v9 = (x2 + (-1)) → (wX0_markWanted_33 a1 post n v9 I6))) ∧ (¬ r8 = 0 → (wX2_firstOf x2 I6 (fun r10 => (wX0_want r10 I6 (fun I11 => (wX2_secondOf x2 I11 (fun r12 => (wX0_want r12 I11 (fun I13 => (∀ v14 : Int32, v14 = (x2 + (-1)) → (wX0_markWanted_33 a1 post n v14 I13)))))))))))))))))))) ∧ (¬ (I 28 (x2).toNatClampNeg) = 0 → (vp_in x2 24 ∧ (wX4_changes I (fun r15 => (((I 27 (x2).toNatClampNeg) = r15 → (vp_in x2 24 ∧ (∀ I16 : QI, I16 = q_u2 I 28 (x2).toNatClampNeg 0 → (vp_in x2 24 ∧ (((I16 28 (x2).toNatClampNeg) = 0 → (∀ v17 : Int32, v17 = (x2 + (-1)) → (wX0_markWanted_33 a1 post n v17 I16))) ∧ (¬ (I16 28 (x2).toNatClampNeg) = 0 → (wX2_typeOf x2 I16 (fun r18 => ((r18 = 0 → (∀ v19 : Int32, v19 = (x2 + (-1)) → (wX0_markWanted_33 a1 post n v19 I16))) ∧ (¬ r18 = 0 → (wX2_firstOf x2 I16 (fun r20 => (wX0_want r20 I16 (fun I21 => (wX2_secondOf x2 I21 (fun r22 => (wX0_want r22 I21 (fun I23 => (∀ v24 : Int32, v24 = (x2 + (-1)) → (wX0_markWanted_33 a1 post n v24 I23)))))))))))))))))))) ∧ (¬ (I 27 (x2).toNatClampNeg) = r15 → (vp_in x2 24 ∧ (∀ I25 : QI, I25 = q_u2 I 28 (x2).toNatClampNeg 1 → (vp_in x2 24 ∧ (((I25 28 (x2).toNatClampNeg) = 0 → (∀ v26 : Int32, v26 = (x2 + (-1)) → (wX0_markWanted_33 a1 post n v26 I25))) ∧ (¬ (I25 28 (x2).toNatClampNeg) = 0 → (wX2_typeOf x2 I25 (fun r27 => ((r27 = 0 → (∀ v28 : Int32, v28 = (x2 + (-1)) → (wX0_markWanted_33 a1 post n v28 I25))) ∧ (¬ r27 = 0 → (wX2_firstOf x2 I25 (fun r29 => (wX0_want r29 I25 (fun I30 => (wX2_secondOf x2 I30 (fun r31 => (wX0_want r31 I30 (fun I32 => (∀ v33 : Int32, v33 = (x2 + (-1)) → (wX0_markWanted_33 a1 post n v33 I32))))))))))))))))))))))))))))) := h
    refine V_iload_n dX0_markWanted_33 rfl rfl ?_
    refine V_if_lt 123 dX0_markWanted_34 rfl (fun hc => ?_) (fun hc => ?_)
    · replace h := h.1 hc
      exact V_vret dX0_markWanted_123 rfl (by decide) (by decide) ⟨rfl, rfl, rfl, h⟩
    · replace h := h.2 hc
      refine V_aload_n dX0_markWanted_37 rfl rfl ?_
      refine V_getr dX0_markWanted_38 fl_RX0_32 (hS.n 23 rfl) (hS.k 23 0 rfl) rfl (hS.r 23 6 28 rfl) ?_
      refine V_iload_n dX0_markWanted_41 rfl rfl ?_
      refine V_aload_n dX0_markWanted_42 rfl rfl ?_
      refine V_getr dX0_markWanted_43 fl_RX0_32 (hS.n 23 rfl) (hS.k 23 0 rfl) rfl (hS.r 23 6 28 rfl) ?_
      refine V_iload_n dX0_markWanted_46 rfl rfl ?_
      obtain ⟨hb, h⟩ := h
      refine V_zald dX0_markWanted_47 (hS.n 28 rfl) (hS.k 28 11 rfl) (by rw [(hS.z 28 24 rfl)]; exact hb) ?_
      refine V_if_eq 71 dX0_markWanted_48 rfl (fun hc => ?_) (fun hc => ?_)
      · replace h := h.1 hc
        refine V_iconst (v := 0) dX0_markWanted_71 (by decide) ?_
        obtain ⟨hb, h⟩ := h
        refine V_zast dX0_markWanted_72 (hS.n 28 rfl) (hS.k 28 11 rfl) (by rw [(hS.z 28 24 rfl)]; exact hb) (q_vz (by decide)) ?_
        refine V_memI (fun I6 e_I6 => ?_)
        replace h := h I6 e_I6
        refine V_aload_n dX0_markWanted_73 rfl rfl ?_
        refine V_getr dX0_markWanted_74 fl_RX0_32 (hS.n 23 rfl) (hS.k 23 0 rfl) rfl (hS.r 23 6 28 rfl) ?_
        refine V_iload_n dX0_markWanted_77 rfl rfl ?_
        obtain ⟨hb, h⟩ := h
        refine V_zald dX0_markWanted_78 (hS.n 28 rfl) (hS.k 28 11 rfl) (by rw [(hS.z 28 24 rfl)]; exact hb) ?_
        refine V_if_eq 117 dX0_markWanted_79 rfl (fun hc => ?_) (fun hc => ?_)
        · replace h := h.1 hc
          obtain ⟨v7, e_v7⟩ : ∃ z : Int32, z = (x2 + (-1)) := ⟨_, rfl⟩
          replace h := h v7 e_v7
          refine V_iinc (lo2 := [(2, .int v7), (0, .ref 23)]) 1 dX0_markWanted_117 rfl (v := v7) (by rw [e_v7]; first | done | rfl) (by decide) rfl ?_
          refine V_goto 33 dX0_markWanted_120 rfl ?_
          refine V_sub (lo2 := [(0, .ref 23), (2, .int v7)]) [1, 0] rfl ?_
          exact ih _ _ h
        · replace h := h.2 hc
          refine V_aload_n dX0_markWanted_82 rfl rfl ?_
          refine V_getr dX0_markWanted_83 fl_RX0_15 (hS.n 23 rfl) (hS.k 23 0 rfl) rfl (hS.r 23 1 15 rfl) ?_
          refine V_iload_n dX0_markWanted_86 rfl rfl ?_
          refine V_callVi (st := []) [.int x2] dX0_markWanted_87 ok_mX2_typeOf rfl ml_RX0_82 in_mX2_typeOf se_mX2_typeOf (hS.n 15 rfl) (hS.k 15 2 rfl) (by decide) rfl (Nat.le_of_ble_eq_true rfl) (by decide) (by decide) (by decide) (s_mX2_typeOf hS h) (fun r8 I9 J9 h => ?_)
          obtain ⟨rfl, rfl, h⟩ := h
          refine V_if_eq 117 dX0_markWanted_90 rfl (fun hc => ?_) (fun hc => ?_)
          · replace h := h.1 hc
            obtain ⟨v9, e_v9⟩ : ∃ z : Int32, z = (x2 + (-1)) := ⟨_, rfl⟩
            replace h := h v9 e_v9
            refine V_iinc (lo2 := [(2, .int v9), (0, .ref 23)]) 1 dX0_markWanted_117 rfl (v := v9) (by rw [e_v9]; first | done | rfl) (by decide) rfl ?_
            refine V_goto 33 dX0_markWanted_120 rfl ?_
            refine V_sub (lo2 := [(0, .ref 23), (2, .int v9)]) [1, 0] rfl ?_
            exact ih _ _ h
          · replace h := h.2 hc
            refine V_aload_n dX0_markWanted_93 rfl rfl ?_
            refine V_aload_n dX0_markWanted_94 rfl rfl ?_
            refine V_getr dX0_markWanted_95 fl_RX0_15 (hS.n 23 rfl) (hS.k 23 0 rfl) rfl (hS.r 23 1 15 rfl) ?_
            refine V_iload_n dX0_markWanted_98 rfl rfl ?_
            refine V_callVi (st := [.ref 23]) [.int x2] dX0_markWanted_99 ok_mX2_firstOf rfl ml_RX0_85 in_mX2_firstOf se_mX2_firstOf (hS.n 15 rfl) (hS.k 15 2 rfl) (by decide) rfl (Nat.le_of_ble_eq_true rfl) (by decide) (by decide) (by decide) (s_mX2_firstOf hS h) (fun r10 I9 J9 h => ?_)
            obtain ⟨rfl, rfl, h⟩ := h
            refine V_callVv (st := []) [.int r10] dX0_markWanted_102 ok_mX0_want rfl ml_RX0_88 in_mX0_want se_mX0_want (hS.n 23 rfl) (hS.k 23 0 rfl) (by decide) rfl (Nat.le_of_ble_eq_true rfl) (by decide) (by decide) (by decide) (s_mX0_want hS h) (fun I11 J9 h => ?_)
            obtain ⟨rfl, h⟩ := h
            refine V_aload_n dX0_markWanted_105 rfl rfl ?_
            refine V_aload_n dX0_markWanted_106 rfl rfl ?_
            refine V_getr dX0_markWanted_107 fl_RX0_15 (hS.n 23 rfl) (hS.k 23 0 rfl) rfl (hS.r 23 1 15 rfl) ?_
            refine V_iload_n dX0_markWanted_110 rfl rfl ?_
            refine V_callVi (st := [.ref 23]) [.int x2] dX0_markWanted_111 ok_mX2_secondOf rfl ml_RX0_91 in_mX2_secondOf se_mX2_secondOf (hS.n 15 rfl) (hS.k 15 2 rfl) (by decide) rfl (Nat.le_of_ble_eq_true rfl) (by decide) (by decide) (by decide) (s_mX2_secondOf hS h) (fun r12 I9 J9 h => ?_)
            obtain ⟨rfl, rfl, h⟩ := h
            refine V_callVv (st := []) [.int r12] dX0_markWanted_114 ok_mX0_want rfl ml_RX0_88 in_mX0_want se_mX0_want (hS.n 23 rfl) (hS.k 23 0 rfl) (by decide) rfl (Nat.le_of_ble_eq_true rfl) (by decide) (by decide) (by decide) (s_mX0_want hS h) (fun I13 J9 h => ?_)
            obtain ⟨rfl, h⟩ := h
            obtain ⟨v14, e_v14⟩ : ∃ z : Int32, z = (x2 + (-1)) := ⟨_, rfl⟩
            replace h := h v14 e_v14
            refine V_iinc (lo2 := [(2, .int v14), (0, .ref 23)]) 1 dX0_markWanted_117 rfl (v := v14) (by rw [e_v14]; first | done | rfl) (by decide) rfl ?_
            refine V_goto 33 dX0_markWanted_120 rfl ?_
            refine V_sub (lo2 := [(0, .ref 23), (2, .int v14)]) [1, 0] rfl ?_
            exact ih _ _ h
      · replace h := h.2 hc
        refine V_aload_n dX0_markWanted_51 rfl rfl ?_
        refine V_getr dX0_markWanted_52 fl_RX0_29 (hS.n 23 rfl) (hS.k 23 0 rfl) rfl (hS.r 23 5 27 rfl) ?_
        refine V_iload_n dX0_markWanted_55 rfl rfl ?_
        obtain ⟨hb, h⟩ := h
        refine V_iald dX0_markWanted_56 (hS.n 27 rfl) (hS.k 27 9 rfl) (by rw [(hS.z 27 24 rfl)]; exact hb) ?_
        refine V_aload_n dX0_markWanted_57 rfl rfl ?_
        refine V_getr dX0_markWanted_58 fl_RX0_9 (hS.n 23 rfl) (hS.k 23 0 rfl) rfl (hS.r 23 0 1 rfl) ?_
        refine V_callVi (st := [.int (I 27 (x2).toNatClampNeg), .int x2, .ref 28]) [] dX0_markWanted_61 ok_mX4_changes rfl ml_RX0_49 in_mX4_changes se_mX4_changes (hS.n 1 rfl) (hS.k 1 4 rfl) (by decide) rfl (Nat.le_of_ble_eq_true rfl) (by decide) (by decide) (by decide) (s_mX4_changes hS h) (fun r15 I9 J9 h => ?_)
        obtain ⟨rfl, rfl, h⟩ := h
        refine V_icmp_eq 71 dX0_markWanted_64 rfl (fun hc => ?_) (fun hc => ?_)
        · replace h := h.1 hc
          refine V_iconst (v := 0) dX0_markWanted_71 (by decide) ?_
          obtain ⟨hb, h⟩ := h
          refine V_zast dX0_markWanted_72 (hS.n 28 rfl) (hS.k 28 11 rfl) (by rw [(hS.z 28 24 rfl)]; exact hb) (q_vz (by decide)) ?_
          refine V_memI (fun I16 e_I16 => ?_)
          replace h := h I16 e_I16
          refine V_aload_n dX0_markWanted_73 rfl rfl ?_
          refine V_getr dX0_markWanted_74 fl_RX0_32 (hS.n 23 rfl) (hS.k 23 0 rfl) rfl (hS.r 23 6 28 rfl) ?_
          refine V_iload_n dX0_markWanted_77 rfl rfl ?_
          obtain ⟨hb, h⟩ := h
          refine V_zald dX0_markWanted_78 (hS.n 28 rfl) (hS.k 28 11 rfl) (by rw [(hS.z 28 24 rfl)]; exact hb) ?_
          refine V_if_eq 117 dX0_markWanted_79 rfl (fun hc => ?_) (fun hc => ?_)
          · replace h := h.1 hc
            obtain ⟨v17, e_v17⟩ : ∃ z : Int32, z = (x2 + (-1)) := ⟨_, rfl⟩
            replace h := h v17 e_v17
            refine V_iinc (lo2 := [(2, .int v17), (0, .ref 23)]) 1 dX0_markWanted_117 rfl (v := v17) (by rw [e_v17]; first | done | rfl) (by decide) rfl ?_
            refine V_goto 33 dX0_markWanted_120 rfl ?_
            refine V_sub (lo2 := [(0, .ref 23), (2, .int v17)]) [1, 0] rfl ?_
            exact ih _ _ h
          · replace h := h.2 hc
            refine V_aload_n dX0_markWanted_82 rfl rfl ?_
            refine V_getr dX0_markWanted_83 fl_RX0_15 (hS.n 23 rfl) (hS.k 23 0 rfl) rfl (hS.r 23 1 15 rfl) ?_
            refine V_iload_n dX0_markWanted_86 rfl rfl ?_
            refine V_callVi (st := []) [.int x2] dX0_markWanted_87 ok_mX2_typeOf rfl ml_RX0_82 in_mX2_typeOf se_mX2_typeOf (hS.n 15 rfl) (hS.k 15 2 rfl) (by decide) rfl (Nat.le_of_ble_eq_true rfl) (by decide) (by decide) (by decide) (s_mX2_typeOf hS h) (fun r18 I9 J9 h => ?_)
            obtain ⟨rfl, rfl, h⟩ := h
            refine V_if_eq 117 dX0_markWanted_90 rfl (fun hc => ?_) (fun hc => ?_)
            · replace h := h.1 hc
              obtain ⟨v19, e_v19⟩ : ∃ z : Int32, z = (x2 + (-1)) := ⟨_, rfl⟩
              replace h := h v19 e_v19
              refine V_iinc (lo2 := [(2, .int v19), (0, .ref 23)]) 1 dX0_markWanted_117 rfl (v := v19) (by rw [e_v19]; first | done | rfl) (by decide) rfl ?_
              refine V_goto 33 dX0_markWanted_120 rfl ?_
              refine V_sub (lo2 := [(0, .ref 23), (2, .int v19)]) [1, 0] rfl ?_
              exact ih _ _ h
            · replace h := h.2 hc
              refine V_aload_n dX0_markWanted_93 rfl rfl ?_
              refine V_aload_n dX0_markWanted_94 rfl rfl ?_
              refine V_getr dX0_markWanted_95 fl_RX0_15 (hS.n 23 rfl) (hS.k 23 0 rfl) rfl (hS.r 23 1 15 rfl) ?_
              refine V_iload_n dX0_markWanted_98 rfl rfl ?_
              refine V_callVi (st := [.ref 23]) [.int x2] dX0_markWanted_99 ok_mX2_firstOf rfl ml_RX0_85 in_mX2_firstOf se_mX2_firstOf (hS.n 15 rfl) (hS.k 15 2 rfl) (by decide) rfl (Nat.le_of_ble_eq_true rfl) (by decide) (by decide) (by decide) (s_mX2_firstOf hS h) (fun r20 I9 J9 h => ?_)
              obtain ⟨rfl, rfl, h⟩ := h
              refine V_callVv (st := []) [.int r20] dX0_markWanted_102 ok_mX0_want rfl ml_RX0_88 in_mX0_want se_mX0_want (hS.n 23 rfl) (hS.k 23 0 rfl) (by decide) rfl (Nat.le_of_ble_eq_true rfl) (by decide) (by decide) (by decide) (s_mX0_want hS h) (fun I21 J9 h => ?_)
              obtain ⟨rfl, h⟩ := h
              refine V_aload_n dX0_markWanted_105 rfl rfl ?_
              refine V_aload_n dX0_markWanted_106 rfl rfl ?_
              refine V_getr dX0_markWanted_107 fl_RX0_15 (hS.n 23 rfl) (hS.k 23 0 rfl) rfl (hS.r 23 1 15 rfl) ?_
              refine V_iload_n dX0_markWanted_110 rfl rfl ?_
              refine V_callVi (st := [.ref 23]) [.int x2] dX0_markWanted_111 ok_mX2_secondOf rfl ml_RX0_91 in_mX2_secondOf se_mX2_secondOf (hS.n 15 rfl) (hS.k 15 2 rfl) (by decide) rfl (Nat.le_of_ble_eq_true rfl) (by decide) (by decide) (by decide) (s_mX2_secondOf hS h) (fun r22 I9 J9 h => ?_)
              obtain ⟨rfl, rfl, h⟩ := h
              refine V_callVv (st := []) [.int r22] dX0_markWanted_114 ok_mX0_want rfl ml_RX0_88 in_mX0_want se_mX0_want (hS.n 23 rfl) (hS.k 23 0 rfl) (by decide) rfl (Nat.le_of_ble_eq_true rfl) (by decide) (by decide) (by decide) (s_mX0_want hS h) (fun I23 J9 h => ?_)
              obtain ⟨rfl, h⟩ := h
              obtain ⟨v24, e_v24⟩ : ∃ z : Int32, z = (x2 + (-1)) := ⟨_, rfl⟩
              replace h := h v24 e_v24
              refine V_iinc (lo2 := [(2, .int v24), (0, .ref 23)]) 1 dX0_markWanted_117 rfl (v := v24) (by rw [e_v24]; first | done | rfl) (by decide) rfl ?_
              refine V_goto 33 dX0_markWanted_120 rfl ?_
              refine V_sub (lo2 := [(0, .ref 23), (2, .int v24)]) [1, 0] rfl ?_
              exact ih _ _ h
        · replace h := h.2 hc
          refine V_iconst (v := 1) dX0_markWanted_67 (by decide) ?_
          refine V_goto 72 dX0_markWanted_68 rfl ?_
          obtain ⟨hb, h⟩ := h
          refine V_zast dX0_markWanted_72 (hS.n 28 rfl) (hS.k 28 11 rfl) (by rw [(hS.z 28 24 rfl)]; exact hb) (q_vz (by decide)) ?_
          refine V_memI (fun I25 e_I25 => ?_)
          replace h := h I25 e_I25
          refine V_aload_n dX0_markWanted_73 rfl rfl ?_
          refine V_getr dX0_markWanted_74 fl_RX0_32 (hS.n 23 rfl) (hS.k 23 0 rfl) rfl (hS.r 23 6 28 rfl) ?_
          refine V_iload_n dX0_markWanted_77 rfl rfl ?_
          obtain ⟨hb, h⟩ := h
          refine V_zald dX0_markWanted_78 (hS.n 28 rfl) (hS.k 28 11 rfl) (by rw [(hS.z 28 24 rfl)]; exact hb) ?_
          refine V_if_eq 117 dX0_markWanted_79 rfl (fun hc => ?_) (fun hc => ?_)
          · replace h := h.1 hc
            obtain ⟨v26, e_v26⟩ : ∃ z : Int32, z = (x2 + (-1)) := ⟨_, rfl⟩
            replace h := h v26 e_v26
            refine V_iinc (lo2 := [(2, .int v26), (0, .ref 23)]) 1 dX0_markWanted_117 rfl (v := v26) (by rw [e_v26]; first | done | rfl) (by decide) rfl ?_
            refine V_goto 33 dX0_markWanted_120 rfl ?_
            refine V_sub (lo2 := [(0, .ref 23), (2, .int v26)]) [1, 0] rfl ?_
            exact ih _ _ h
          · replace h := h.2 hc
            refine V_aload_n dX0_markWanted_82 rfl rfl ?_
            refine V_getr dX0_markWanted_83 fl_RX0_15 (hS.n 23 rfl) (hS.k 23 0 rfl) rfl (hS.r 23 1 15 rfl) ?_
            refine V_iload_n dX0_markWanted_86 rfl rfl ?_
            refine V_callVi (st := []) [.int x2] dX0_markWanted_87 ok_mX2_typeOf rfl ml_RX0_82 in_mX2_typeOf se_mX2_typeOf (hS.n 15 rfl) (hS.k 15 2 rfl) (by decide) rfl (Nat.le_of_ble_eq_true rfl) (by decide) (by decide) (by decide) (s_mX2_typeOf hS h) (fun r27 I9 J9 h => ?_)
            obtain ⟨rfl, rfl, h⟩ := h
            refine V_if_eq 117 dX0_markWanted_90 rfl (fun hc => ?_) (fun hc => ?_)
            · replace h := h.1 hc
              obtain ⟨v28, e_v28⟩ : ∃ z : Int32, z = (x2 + (-1)) := ⟨_, rfl⟩
              replace h := h v28 e_v28
              refine V_iinc (lo2 := [(2, .int v28), (0, .ref 23)]) 1 dX0_markWanted_117 rfl (v := v28) (by rw [e_v28]; first | done | rfl) (by decide) rfl ?_
              refine V_goto 33 dX0_markWanted_120 rfl ?_
              refine V_sub (lo2 := [(0, .ref 23), (2, .int v28)]) [1, 0] rfl ?_
              exact ih _ _ h
            · replace h := h.2 hc
              refine V_aload_n dX0_markWanted_93 rfl rfl ?_
              refine V_aload_n dX0_markWanted_94 rfl rfl ?_
              refine V_getr dX0_markWanted_95 fl_RX0_15 (hS.n 23 rfl) (hS.k 23 0 rfl) rfl (hS.r 23 1 15 rfl) ?_
              refine V_iload_n dX0_markWanted_98 rfl rfl ?_
              refine V_callVi (st := [.ref 23]) [.int x2] dX0_markWanted_99 ok_mX2_firstOf rfl ml_RX0_85 in_mX2_firstOf se_mX2_firstOf (hS.n 15 rfl) (hS.k 15 2 rfl) (by decide) rfl (Nat.le_of_ble_eq_true rfl) (by decide) (by decide) (by decide) (s_mX2_firstOf hS h) (fun r29 I9 J9 h => ?_)
              obtain ⟨rfl, rfl, h⟩ := h
              refine V_callVv (st := []) [.int r29] dX0_markWanted_102 ok_mX0_want rfl ml_RX0_88 in_mX0_want se_mX0_want (hS.n 23 rfl) (hS.k 23 0 rfl) (by decide) rfl (Nat.le_of_ble_eq_true rfl) (by decide) (by decide) (by decide) (s_mX0_want hS h) (fun I30 J9 h => ?_)
              obtain ⟨rfl, h⟩ := h
              refine V_aload_n dX0_markWanted_105 rfl rfl ?_
              refine V_aload_n dX0_markWanted_106 rfl rfl ?_
              refine V_getr dX0_markWanted_107 fl_RX0_15 (hS.n 23 rfl) (hS.k 23 0 rfl) rfl (hS.r 23 1 15 rfl) ?_
              refine V_iload_n dX0_markWanted_110 rfl rfl ?_
              refine V_callVi (st := [.ref 23]) [.int x2] dX0_markWanted_111 ok_mX2_secondOf rfl ml_RX0_91 in_mX2_secondOf se_mX2_secondOf (hS.n 15 rfl) (hS.k 15 2 rfl) (by decide) rfl (Nat.le_of_ble_eq_true rfl) (by decide) (by decide) (by decide) (s_mX2_secondOf hS h) (fun r31 I9 J9 h => ?_)
              obtain ⟨rfl, rfl, h⟩ := h
              refine V_callVv (st := []) [.int r31] dX0_markWanted_114 ok_mX0_want rfl ml_RX0_88 in_mX0_want se_mX0_want (hS.n 23 rfl) (hS.k 23 0 rfl) (by decide) rfl (Nat.le_of_ble_eq_true rfl) (by decide) (by decide) (by decide) (s_mX0_want hS h) (fun I32 J9 h => ?_)
              obtain ⟨rfl, h⟩ := h
              obtain ⟨v33, e_v33⟩ : ∃ z : Int32, z = (x2 + (-1)) := ⟨_, rfl⟩
              replace h := h v33 e_v33
              refine V_iinc (lo2 := [(2, .int v33), (0, .ref 23)]) 1 dX0_markWanted_117 rfl (v := v33) (by rw [e_v33]; first | done | rfl) (by decide) rfl ?_
              refine V_goto 33 dX0_markWanted_120 rfl ?_
              refine V_sub (lo2 := [(0, .ref 23), (2, .int v33)]) [1, 0] rfl ?_
              exact ih _ _ h
def wX0_markWanted (a1 : Int32) (I : QI) (post : QI → Prop) : Prop := (∃ f : Nat, wX0_markWanted_2 a1 (fun I5 => (∃ f : Nat, wX0_markWanted_33 a1 post f 23 I5)) post f 0 I)
set_option maxRecDepth 100000 in
set_option maxHeartbeats 4000000 in
theorem s_mX0_markWanted {X : QX} {S : QS} {a1 : Int32} {I : QI} {J : QJ} {post : QI → Prop} (hS : Sh S) (h : wX0_markWanted a1 I post) : CX X mX0_markWanted 1 0 0 [.ref 23, .int a1] S I J (q_Pv S (fun I2 J2 => J = J2 ∧ post I2)) := by
  refine CX.of (lo := [(0, .ref 23), (1, .int a1)]) ok_mX0_markWanted rfl (Nat.le_of_ble_eq_true rfl) rfl ?_
  replace h : (∃ f : Nat, wX0_markWanted_2 a1 (fun I5 => (∃ f : Nat, wX0_markWanted_33 a1 post f 23 I5)) post f 0 I) := h
  refine V_iconst (v := 0) dX0_markWanted_0 (by decide) ?_
  refine V_istore_n (lo2 := [(2, .int 0), (0, .ref 23), (1, .int a1)]) dX0_markWanted_1 rfl (by decide) rfl ?_
  refine V_sub (lo2 := [(0, .ref 23), (1, .int a1), (2, .int 0)]) [1, 2, 0] rfl ?_
  obtain ⟨f9, h⟩ := h
  refine swX0_markWanted_2 hS ?_ f9 _ _ h
  · intro I5 h
    refine V_bipush (v := 23) dX0_markWanted_30 (by decide) ?_
    refine V_istore_n (lo2 := [(2, .int 23), (0, .ref 23)]) dX0_markWanted_32 rfl (by decide) rfl ?_
    refine V_sub (lo2 := [(0, .ref 23), (2, .int 23)]) [1, 0] rfl ?_
    obtain ⟨f9, h⟩ := h
    refine swX0_markWanted_33 hS f9 _ _ h
def wX0_isPossible_20 (a1 : Int32) (a2 : Int32) (K92 : QI → Prop) (post : Int32 → QI → Prop) : Nat → Int32 → QI → Prop
  | 0, _, _ => False
  | n + 1, x3, I => ((a1 < x3 → (K92 I)) ∧ (¬ a1 < x3 → ((24 ≤ x3 → (K92 I)) ∧ (¬ 24 ≤ x3 → (vp_in x3 24 ∧ (((I 28 (x3).toNatClampNeg) = 0 → (∀ v3 : Int32, v3 = (x3 + 1) → (wX0_isPossible_20 a1 a2 K92 post n v3 I))) ∧ (¬ (I 28 (x3).toNatClampNeg) = 0 → (wX4_changes I (fun r4 => (vp_in x3 24 ∧ (∀ I5 : QI, I5 = q_u2 I 27 (x3).toNatClampNeg r4 → (vp_in x3 24 ∧ (∀ I6 : QI, I6 = q_u2 I5 25 (x3).toNatClampNeg 0 → (wX0_arePartsPossible x3 I6 (fun r7 => ((r7 = 0 → (wX0_finish x3 0 I6 (fun I8 => (∀ v9 : Int32, v9 = (x3 + 1) → (wX0_isPossible_20 a1 a2 K92 post n v9 I8))))) ∧ (¬ r7 = 0 → (wX0_fill x3 I6 (fun r11 I10 => ((r11 = 0 → (wX0_finish x3 0 I10 (fun I12 => (∀ v13 : Int32, v13 = (x3 + 1) → (wX0_isPossible_20 a1 a2 K92 post n v13 I12))))) ∧ (¬ r11 = 0 → (wX0_finish x3 1 I10 (fun I14 => (∀ v15 : Int32, v15 = (x3 + 1) → (wX0_isPossible_20 a1 a2 K92 post n v15 I14)))))))))))))))))))))))))
set_option maxRecDepth 100000 in
set_option maxHeartbeats 4000000 in
theorem swX0_isPossible_20 {X : QX} {S : QS} {a1 : Int32} {a2 : Int32} {J : QJ} {K92 : QI → Prop} {post : Int32 → QI → Prop} (hS : Sh S) (hK92 : ∀ (I : QI), K92 I → V X mX0_isPossible 6 0 0 (q_Pi S (fun r I2 J2 => J = J2 ∧ post r I2)) 92 [(0, .ref 23), (1, .int a1), (2, .int a2)] [] S I J 0 0) : ∀ (f : Nat) (x3 : Int32) (I : QI), wX0_isPossible_20 a1 a2 K92 post f x3 I → V X mX0_isPossible 6 0 0 (q_Pi S (fun r I2 J2 => J = J2 ∧ post r I2)) 20 [(0, .ref 23), (1, .int a1), (2, .int a2), (3, .int x3)] [] S I J 0 0 := by
  intro f
  induction f with
  | zero => intro x3 I h; exact h.elim
  | succ n ih =>
    intro x3 I h
    replace h : ((a1 < x3 → (K92 I)) ∧ (¬ a1 < x3 → ((24 ≤ x3 → (K92 I)) ∧ (¬ 24 ≤ x3 → (vp_in x3 24 ∧ (((I 28 (x3).toNatClampNeg) = 0 → (∀ v3 : Int32, v3 = (x3 + 1) → (wX0_isPossible_20 a1 a2 K92 post n v3 I))) ∧ (¬ (I 28 (x3).toNatClampNeg) = 0 → (wX4_changes I (fun r4 => (vp_in x3 24 ∧ (∀ I5 : QI, I5 = q_u2 I 27 (x3).toNatClampNeg r4 → (vp_in x3 24 ∧ (∀ I6 : QI, I6 = q_u2 I5 25 (x3).toNatClampNeg 0 → (wX0_arePartsPossible x3 I6 (fun r7 => ((r7 = 0 → (wX0_finish x3 0 I6 (fun I8 => (∀ v9 : Int32, v9 = (x3 + 1) → (wX0_isPossible_20 a1 a2 K92 post n v9 I8))))) ∧ (¬ r7 = 0 → (wX0_fill x3 I6 (fun r11 I10 => ((r11 = 0 → (wX0_finish x3 0 I10 (fun I12 => (∀ v13 : Int32, v13 = (x3 + 1) → (wX0_isPossible_20 a1 a2 K92 post n v13 I12))))) ∧ (¬ r11 = 0 → (wX0_finish x3 1 I10 (fun I14 => (∀ v15 : Int32, v15 = (x3 + 1) → (wX0_isPossible_20 a1 a2 K92 post n v15 I14))))))))))))))))))))))))) := h
    refine V_iload_n dX0_isPossible_20 rfl rfl ?_
    refine V_iload_n dX0_isPossible_21 rfl rfl ?_
    refine V_icmp_gt 92 dX0_isPossible_22 rfl (fun hc => ?_) (fun hc => ?_)
    · replace h := h.1 hc
      refine V_sub (lo2 := [(0, .ref 23), (1, .int a1), (2, .int a2)]) [0, 1, 2] rfl ?_
      exact hK92 _ h
    · replace h := h.2 hc
      refine V_iload_n dX0_isPossible_25 rfl rfl ?_
      refine V_bipush (v := 24) dX0_isPossible_26 (by decide) ?_
      refine V_icmp_ge 92 dX0_isPossible_28 rfl (fun hc => ?_) (fun hc => ?_)
      · replace h := h.1 hc
        refine V_sub (lo2 := [(0, .ref 23), (1, .int a1), (2, .int a2)]) [0, 1, 2] rfl ?_
        exact hK92 _ h
      · replace h := h.2 hc
        refine V_aload_n dX0_isPossible_31 rfl rfl ?_
        refine V_getr dX0_isPossible_32 fl_RX0_32 (hS.n 23 rfl) (hS.k 23 0 rfl) rfl (hS.r 23 6 28 rfl) ?_
        refine V_iload_n dX0_isPossible_35 rfl rfl ?_
        obtain ⟨hb, h⟩ := h
        refine V_zald dX0_isPossible_36 (hS.n 28 rfl) (hS.k 28 11 rfl) (by rw [(hS.z 28 24 rfl)]; exact hb) ?_
        refine V_if_eq 86 dX0_isPossible_37 rfl (fun hc => ?_) (fun hc => ?_)
        · replace h := h.1 hc
          obtain ⟨v3, e_v3⟩ : ∃ z : Int32, z = (x3 + 1) := ⟨_, rfl⟩
          replace h := h v3 e_v3
          refine V_iinc (lo2 := [(3, .int v3), (0, .ref 23), (1, .int a1), (2, .int a2)]) 3 dX0_isPossible_86 rfl (v := v3) (by rw [e_v3]; first | done | rfl) (by decide) rfl ?_
          refine V_goto 20 dX0_isPossible_89 rfl ?_
          refine V_sub (lo2 := [(0, .ref 23), (1, .int a1), (2, .int a2), (3, .int v3)]) [1, 2, 3, 0] rfl ?_
          exact ih _ _ h
        · replace h := h.2 hc
          refine V_aload_n dX0_isPossible_40 rfl rfl ?_
          refine V_getr dX0_isPossible_41 fl_RX0_29 (hS.n 23 rfl) (hS.k 23 0 rfl) rfl (hS.r 23 5 27 rfl) ?_
          refine V_iload_n dX0_isPossible_44 rfl rfl ?_
          refine V_aload_n dX0_isPossible_45 rfl rfl ?_
          refine V_getr dX0_isPossible_46 fl_RX0_9 (hS.n 23 rfl) (hS.k 23 0 rfl) rfl (hS.r 23 0 1 rfl) ?_
          refine V_callVi (st := [.int x3, .ref 27]) [] dX0_isPossible_49 ok_mX4_changes rfl ml_RX0_49 in_mX4_changes se_mX4_changes (hS.n 1 rfl) (hS.k 1 4 rfl) (by decide) rfl (Nat.le_of_ble_eq_true rfl) (by decide) (by decide) (by decide) (s_mX4_changes hS h) (fun r4 I9 J9 h => ?_)
          obtain ⟨rfl, rfl, h⟩ := h
          obtain ⟨hb, h⟩ := h
          refine V_iast dX0_isPossible_52 (hS.n 27 rfl) (hS.k 27 9 rfl) (by rw [(hS.z 27 24 rfl)]; exact hb) ?_
          refine V_memI (fun I5 e_I5 => ?_)
          replace h := h I5 e_I5
          refine V_aload_n dX0_isPossible_53 rfl rfl ?_
          refine V_getr dX0_isPossible_54 fl_RX0_23 (hS.n 23 rfl) (hS.k 23 0 rfl) rfl (hS.r 23 3 25 rfl) ?_
          refine V_iload_n dX0_isPossible_57 rfl rfl ?_
          refine V_iconst (v := 0) dX0_isPossible_58 (by decide) ?_
          obtain ⟨hb, h⟩ := h
          refine V_iast dX0_isPossible_59 (hS.n 25 rfl) (hS.k 25 9 rfl) (by rw [(hS.z 25 24 rfl)]; exact hb) ?_
          refine V_memI (fun I6 e_I6 => ?_)
          replace h := h I6 e_I6
          refine V_aload_n dX0_isPossible_60 rfl rfl ?_
          refine V_iload_n dX0_isPossible_61 rfl rfl ?_
          refine V_aload_n dX0_isPossible_62 rfl rfl ?_
          refine V_iload_n dX0_isPossible_63 rfl rfl ?_
          refine V_callVi (st := [.int x3, .ref 23]) [.int x3] dX0_isPossible_64 ok_mX0_arePartsPossible rfl ml_RX0_55 in_mX0_arePartsPossible se_mX0_arePartsPossible (hS.n 23 rfl) (hS.k 23 0 rfl) (by decide) rfl (Nat.le_of_ble_eq_true rfl) (by decide) (by decide) (by decide) (s_mX0_arePartsPossible hS h) (fun r7 I9 J9 h => ?_)
          obtain ⟨rfl, rfl, h⟩ := h
          refine V_if_eq 82 dX0_isPossible_67 rfl (fun hc => ?_) (fun hc => ?_)
          · replace h := h.1 hc
            refine V_iconst (v := 0) dX0_isPossible_82 (by decide) ?_
            refine V_callVv (st := []) [.int x3, .int 0] dX0_isPossible_83 ok_mX0_finish rfl ml_RX0_61 in_mX0_finish se_mX0_finish (hS.n 23 rfl) (hS.k 23 0 rfl) (by decide) rfl (Nat.le_of_ble_eq_true rfl) (by decide) (by decide) (by decide) (s_mX0_finish hS h) (fun I8 J9 h => ?_)
            obtain ⟨rfl, h⟩ := h
            obtain ⟨v9, e_v9⟩ : ∃ z : Int32, z = (x3 + 1) := ⟨_, rfl⟩
            replace h := h v9 e_v9
            refine V_iinc (lo2 := [(3, .int v9), (0, .ref 23), (1, .int a1), (2, .int a2)]) 3 dX0_isPossible_86 rfl (v := v9) (by rw [e_v9]; first | done | rfl) (by decide) rfl ?_
            refine V_goto 20 dX0_isPossible_89 rfl ?_
            refine V_sub (lo2 := [(0, .ref 23), (1, .int a1), (2, .int a2), (3, .int v9)]) [1, 2, 3, 0] rfl ?_
            exact ih _ _ h
          · replace h := h.2 hc
            refine V_aload_n dX0_isPossible_70 rfl rfl ?_
            refine V_iload_n dX0_isPossible_71 rfl rfl ?_
            refine V_callVi (st := [.int x3, .ref 23]) [.int x3] dX0_isPossible_72 ok_mX0_fill rfl ml_RX0_58 in_mX0_fill se_mX0_fill (hS.n 23 rfl) (hS.k 23 0 rfl) (by decide) rfl (Nat.le_of_ble_eq_true rfl) (by decide) (by decide) (by decide) (s_mX0_fill hS h) (fun r11 I10 J9 h => ?_)
            obtain ⟨rfl, h⟩ := h
            refine V_if_eq 82 dX0_isPossible_75 rfl (fun hc => ?_) (fun hc => ?_)
            · replace h := h.1 hc
              refine V_iconst (v := 0) dX0_isPossible_82 (by decide) ?_
              refine V_callVv (st := []) [.int x3, .int 0] dX0_isPossible_83 ok_mX0_finish rfl ml_RX0_61 in_mX0_finish se_mX0_finish (hS.n 23 rfl) (hS.k 23 0 rfl) (by decide) rfl (Nat.le_of_ble_eq_true rfl) (by decide) (by decide) (by decide) (s_mX0_finish hS h) (fun I12 J9 h => ?_)
              obtain ⟨rfl, h⟩ := h
              obtain ⟨v13, e_v13⟩ : ∃ z : Int32, z = (x3 + 1) := ⟨_, rfl⟩
              replace h := h v13 e_v13
              refine V_iinc (lo2 := [(3, .int v13), (0, .ref 23), (1, .int a1), (2, .int a2)]) 3 dX0_isPossible_86 rfl (v := v13) (by rw [e_v13]; first | done | rfl) (by decide) rfl ?_
              refine V_goto 20 dX0_isPossible_89 rfl ?_
              refine V_sub (lo2 := [(0, .ref 23), (1, .int a1), (2, .int a2), (3, .int v13)]) [1, 2, 3, 0] rfl ?_
              exact ih _ _ h
            · replace h := h.2 hc
              refine V_iconst (v := 1) dX0_isPossible_78 (by decide) ?_
              refine V_goto 83 dX0_isPossible_79 rfl ?_
              refine V_callVv (st := []) [.int x3, .int 1] dX0_isPossible_83 ok_mX0_finish rfl ml_RX0_61 in_mX0_finish se_mX0_finish (hS.n 23 rfl) (hS.k 23 0 rfl) (by decide) rfl (Nat.le_of_ble_eq_true rfl) (by decide) (by decide) (by decide) (s_mX0_finish hS h) (fun I14 J9 h => ?_)
              obtain ⟨rfl, h⟩ := h
              obtain ⟨v15, e_v15⟩ : ∃ z : Int32, z = (x3 + 1) := ⟨_, rfl⟩
              replace h := h v15 e_v15
              refine V_iinc (lo2 := [(3, .int v15), (0, .ref 23), (1, .int a1), (2, .int a2)]) 3 dX0_isPossible_86 rfl (v := v15) (by rw [e_v15]; first | done | rfl) (by decide) rfl ?_
              refine V_goto 20 dX0_isPossible_89 rfl ?_
              refine V_sub (lo2 := [(0, .ref 23), (1, .int a1), (2, .int a2), (3, .int v15)]) [1, 2, 3, 0] rfl ?_
              exact ih _ _ h
def wX0_isPossible (a1 : Int32) (a2 : Int32) (I : QI) (post : Int32 → QI → Prop) : Prop := (wX2_has a1 I (fun r1 => ((¬ r1 = 0 → (wX0_markWanted a1 I (fun I2 => (∃ f : Nat, wX0_isPossible_20 a1 a2 (fun I16 => (wX0_countOf a1 I16 (fun r17 => ((r17 = (-1) → post 0 I16) ∧ (¬ r17 = (-1) → (wX0_stepsOf a1 I16 (fun r18 => ((a2 < r18 → post 0 I16) ∧ (¬ a2 < r18 → post 1 I16))))))))) post f 0 I2)))) ∧ (r1 = 0 → post 0 I))))
set_option maxRecDepth 100000 in
set_option maxHeartbeats 4000000 in
theorem s_mX0_isPossible {X : QX} {S : QS} {a1 : Int32} {a2 : Int32} {I : QI} {J : QJ} {post : Int32 → QI → Prop} (hS : Sh S) (h : wX0_isPossible a1 a2 I post) : CX X mX0_isPossible 6 0 0 [.ref 23, .int a1, .int a2] S I J (q_Pi S (fun r I2 J2 => J = J2 ∧ post r I2)) := by
  refine CX.of (lo := [(0, .ref 23), (1, .int a1), (2, .int a2)]) ok_mX0_isPossible rfl (Nat.le_of_ble_eq_true rfl) rfl ?_
  replace h : (wX2_has a1 I (fun r1 => ((¬ r1 = 0 → (wX0_markWanted a1 I (fun I2 => (∃ f : Nat, wX0_isPossible_20 a1 a2 (fun I16 => (wX0_countOf a1 I16 (fun r17 => ((r17 = (-1) → post 0 I16) ∧ (¬ r17 = (-1) → (wX0_stepsOf a1 I16 (fun r18 => ((a2 < r18 → post 0 I16) ∧ (¬ a2 < r18 → post 1 I16))))))))) post f 0 I2)))) ∧ (r1 = 0 → post 0 I)))) := h
  refine V_aload_n dX0_isPossible_0 rfl rfl ?_
  refine V_getr dX0_isPossible_1 fl_RX0_15 (hS.n 23 rfl) (hS.k 23 0 rfl) rfl (hS.r 23 1 15 rfl) ?_
  refine V_iload_n dX0_isPossible_4 rfl rfl ?_
  refine V_callVi (st := []) [.int a1] dX0_isPossible_5 ok_mX2_has rfl ml_RX0_39 in_mX2_has se_mX2_has (hS.n 15 rfl) (hS.k 15 2 rfl) (by decide) rfl (Nat.le_of_ble_eq_true rfl) (by decide) (by decide) (by decide) (s_mX2_has hS h) (fun r1 I9 J9 h => ?_)
  obtain ⟨rfl, rfl, h⟩ := h
  refine V_if_ne 13 dX0_isPossible_8 rfl (fun hc => ?_) (fun hc => ?_)
  · replace h := h.1 hc
    refine V_aload_n dX0_isPossible_13 rfl rfl ?_
    refine V_iload_n dX0_isPossible_14 rfl rfl ?_
    refine V_callVv (st := []) [.int a1] dX0_isPossible_15 ok_mX0_markWanted rfl ml_RX0_45 in_mX0_markWanted se_mX0_markWanted (hS.n 23 rfl) (hS.k 23 0 rfl) (by decide) rfl (Nat.le_of_ble_eq_true rfl) (by decide) (by decide) (by decide) (s_mX0_markWanted hS h) (fun I2 J9 h => ?_)
    obtain ⟨rfl, h⟩ := h
    refine V_iconst (v := 0) dX0_isPossible_18 (by decide) ?_
    refine V_istore_n (lo2 := [(3, .int 0), (0, .ref 23), (1, .int a1), (2, .int a2)]) dX0_isPossible_19 rfl (by decide) rfl ?_
    refine V_sub (lo2 := [(0, .ref 23), (1, .int a1), (2, .int a2), (3, .int 0)]) [1, 2, 3, 0] rfl ?_
    obtain ⟨f9, h⟩ := h
    refine swX0_isPossible_20 hS ?_ f9 _ _ h
    · intro I16 h
      refine V_aload_n dX0_isPossible_92 rfl rfl ?_
      refine V_iload_n dX0_isPossible_93 rfl rfl ?_
      refine V_callVi (st := []) [.int a1] dX0_isPossible_94 ok_mX0_countOf rfl ml_RX0_65 in_mX0_countOf se_mX0_countOf (hS.n 23 rfl) (hS.k 23 0 rfl) (by decide) rfl (Nat.le_of_ble_eq_true rfl) (by decide) (by decide) (by decide) (s_mX0_countOf hS h) (fun r17 I9 J9 h => ?_)
      obtain ⟨rfl, rfl, h⟩ := h
      refine V_iconst (v := (-1)) dX0_isPossible_97 (by decide) ?_
      refine V_icmp_eq 114 dX0_isPossible_98 rfl (fun hc => ?_) (fun hc => ?_)
      · replace h := h.1 hc
        refine V_iconst (v := 0) dX0_isPossible_114 (by decide) ?_
        exact V_zret dX0_isPossible_115 rfl (by decide) (by decide) (by decide) ⟨_, rfl, rfl, rfl, h⟩
      · replace h := h.2 hc
        refine V_aload_n dX0_isPossible_101 rfl rfl ?_
        refine V_iload_n dX0_isPossible_102 rfl rfl ?_
        refine V_callVi (st := []) [.int a1] dX0_isPossible_103 ok_mX0_stepsOf rfl ml_RX0_69 in_mX0_stepsOf se_mX0_stepsOf (hS.n 23 rfl) (hS.k 23 0 rfl) (by decide) rfl (Nat.le_of_ble_eq_true rfl) (by decide) (by decide) (by decide) (s_mX0_stepsOf hS h) (fun r18 I9 J9 h => ?_)
        obtain ⟨rfl, rfl, h⟩ := h
        refine V_iload_n dX0_isPossible_106 rfl rfl ?_
        refine V_icmp_gt 114 dX0_isPossible_107 rfl (fun hc => ?_) (fun hc => ?_)
        · replace h := h.1 hc
          refine V_iconst (v := 0) dX0_isPossible_114 (by decide) ?_
          exact V_zret dX0_isPossible_115 rfl (by decide) (by decide) (by decide) ⟨_, rfl, rfl, rfl, h⟩
        · replace h := h.2 hc
          refine V_iconst (v := 1) dX0_isPossible_110 (by decide) ?_
          refine V_goto 115 dX0_isPossible_111 rfl ?_
          exact V_zret dX0_isPossible_115 rfl (by decide) (by decide) (by decide) ⟨_, rfl, rfl, rfl, h⟩
  · replace h := h.2 hc
    refine V_iconst (v := 0) dX0_isPossible_11 (by decide) ?_
    exact V_zret dX0_isPossible_12 rfl (by decide) (by decide) (by decide) ⟨_, rfl, rfl, rfl, h⟩
def wX0_haveSameRows_40 (a1 : Int32) (a2 : Int32) (post : Int32 → QI → Prop) : Nat → Int32 → QI → Prop
  | 0, _, _ => False
  | n + 1, x3, I => (wX0_countOf a2 I (fun r6 => ((r6 ≤ x3 → post 1 I) ∧ (¬ r6 ≤ x3 → (wX0_takeAway a1 a2 x3 I (fun r8 I7 => ((¬ r8 = 0 → (∀ v9 : Int32, v9 = (x3 + 1) → (wX0_haveSameRows_40 a1 a2 post n v9 I7))) ∧ (r8 = 0 → post 0 I7))))))))
set_option maxRecDepth 100000 in
set_option maxHeartbeats 4000000 in
theorem swX0_haveSameRows_40 {X : QX} {S : QS} {a1 : Int32} {a2 : Int32} {J : QJ} {post : Int32 → QI → Prop} (hS : Sh S) : ∀ (f : Nat) (x3 : Int32) (I : QI), wX0_haveSameRows_40 a1 a2 post f x3 I → V X mX0_haveSameRows 3 0 0 (q_Pi S (fun r I2 J2 => J = J2 ∧ post r I2)) 40 [(0, .ref 23), (1, .int a1), (2, .int a2), (3, .int x3)] [] S I J 0 0 := by
  intro f
  induction f with
  | zero => intro x3 I h; exact h.elim
  | succ n ih =>
    intro x3 I h
    replace h : (wX0_countOf a2 I (fun r6 => ((r6 ≤ x3 → post 1 I) ∧ (¬ r6 ≤ x3 → (wX0_takeAway a1 a2 x3 I (fun r8 I7 => ((¬ r8 = 0 → (∀ v9 : Int32, v9 = (x3 + 1) → (wX0_haveSameRows_40 a1 a2 post n v9 I7))) ∧ (r8 = 0 → post 0 I7)))))))) := h
    refine V_iload_n dX0_haveSameRows_40 rfl rfl ?_
    refine V_aload_n dX0_haveSameRows_41 rfl rfl ?_
    refine V_iload_n dX0_haveSameRows_42 rfl rfl ?_
    refine V_callVi (st := [.int x3]) [.int a2] dX0_haveSameRows_43 ok_mX0_countOf rfl ml_RX0_65 in_mX0_countOf se_mX0_countOf (hS.n 23 rfl) (hS.k 23 0 rfl) (by decide) rfl (Nat.le_of_ble_eq_true rfl) (by decide) (by decide) (by decide) (s_mX0_countOf hS h) (fun r6 I9 J9 h => ?_)
    obtain ⟨rfl, rfl, h⟩ := h
    refine V_icmp_ge 67 dX0_haveSameRows_46 rfl (fun hc => ?_) (fun hc => ?_)
    · replace h := h.1 hc
      refine V_iconst (v := 1) dX0_haveSameRows_67 (by decide) ?_
      exact V_zret dX0_haveSameRows_68 rfl (by decide) (by decide) (by decide) ⟨_, rfl, rfl, rfl, h⟩
    · replace h := h.2 hc
      refine V_aload_n dX0_haveSameRows_49 rfl rfl ?_
      refine V_iload_n dX0_haveSameRows_50 rfl rfl ?_
      refine V_iload_n dX0_haveSameRows_51 rfl rfl ?_
      refine V_iload_n dX0_haveSameRows_52 rfl rfl ?_
      refine V_callVi (st := []) [.int a1, .int a2, .int x3] dX0_haveSameRows_53 ok_mX0_takeAway rfl ml_RX0_78 in_mX0_takeAway se_mX0_takeAway (hS.n 23 rfl) (hS.k 23 0 rfl) (by decide) rfl (Nat.le_of_ble_eq_true rfl) (by decide) (by decide) (by decide) (s_mX0_takeAway hS h) (fun r8 I7 J9 h => ?_)
      obtain ⟨rfl, h⟩ := h
      refine V_if_ne 61 dX0_haveSameRows_56 rfl (fun hc => ?_) (fun hc => ?_)
      · replace h := h.1 hc
        obtain ⟨v9, e_v9⟩ : ∃ z : Int32, z = (x3 + 1) := ⟨_, rfl⟩
        replace h := h v9 e_v9
        refine V_iinc (lo2 := [(3, .int v9), (0, .ref 23), (1, .int a1), (2, .int a2)]) 3 dX0_haveSameRows_61 rfl (v := v9) (by rw [e_v9]; first | done | rfl) (by decide) rfl ?_
        refine V_goto 40 dX0_haveSameRows_64 rfl ?_
        refine V_sub (lo2 := [(0, .ref 23), (1, .int a1), (2, .int a2), (3, .int v9)]) [1, 2, 3, 0] rfl ?_
        exact ih _ _ h
      · replace h := h.2 hc
        refine V_iconst (v := 0) dX0_haveSameRows_59 (by decide) ?_
        exact V_zret dX0_haveSameRows_60 rfl (by decide) (by decide) (by decide) ⟨_, rfl, rfl, rfl, h⟩
def wX0_haveSameRows (a1 : Int32) (a2 : Int32) (I : QI) (post : Int32 → QI → Prop) : Prop := (wX2_widthOf a1 I (fun r1 => (wX2_widthOf a2 I (fun r2 => ((¬ r1 = r2 → post 0 I) ∧ (r1 = r2 → (wX0_countOf a1 I (fun r3 => (wX0_countOf a2 I (fun r4 => ((r3 = r4 → (wX0_clearGone I (fun I5 => (∃ f : Nat, wX0_haveSameRows_40 a1 a2 post f 0 I5)))) ∧ (¬ r3 = r4 → post 0 I))))))))))))
set_option maxRecDepth 100000 in
set_option maxHeartbeats 4000000 in
theorem s_mX0_haveSameRows {X : QX} {S : QS} {a1 : Int32} {a2 : Int32} {I : QI} {J : QJ} {post : Int32 → QI → Prop} (hS : Sh S) (h : wX0_haveSameRows a1 a2 I post) : CX X mX0_haveSameRows 3 0 0 [.ref 23, .int a1, .int a2] S I J (q_Pi S (fun r I2 J2 => J = J2 ∧ post r I2)) := by
  refine CX.of (lo := [(0, .ref 23), (1, .int a1), (2, .int a2)]) ok_mX0_haveSameRows rfl (Nat.le_of_ble_eq_true rfl) rfl ?_
  replace h : (wX2_widthOf a1 I (fun r1 => (wX2_widthOf a2 I (fun r2 => ((¬ r1 = r2 → post 0 I) ∧ (r1 = r2 → (wX0_countOf a1 I (fun r3 => (wX0_countOf a2 I (fun r4 => ((r3 = r4 → (wX0_clearGone I (fun I5 => (∃ f : Nat, wX0_haveSameRows_40 a1 a2 post f 0 I5)))) ∧ (¬ r3 = r4 → post 0 I)))))))))))) := h
  refine V_aload_n dX0_haveSameRows_0 rfl rfl ?_
  refine V_getr dX0_haveSameRows_1 fl_RX0_15 (hS.n 23 rfl) (hS.k 23 0 rfl) rfl (hS.r 23 1 15 rfl) ?_
  refine V_iload_n dX0_haveSameRows_4 rfl rfl ?_
  refine V_callVi (st := []) [.int a1] dX0_haveSameRows_5 ok_mX2_widthOf rfl ml_RX0_72 in_mX2_widthOf se_mX2_widthOf (hS.n 15 rfl) (hS.k 15 2 rfl) (by decide) rfl (Nat.le_of_ble_eq_true rfl) (by decide) (by decide) (by decide) (s_mX2_widthOf hS h) (fun r1 I9 J9 h => ?_)
  obtain ⟨rfl, rfl, h⟩ := h
  refine V_aload_n dX0_haveSameRows_8 rfl rfl ?_
  refine V_getr dX0_haveSameRows_9 fl_RX0_15 (hS.n 23 rfl) (hS.k 23 0 rfl) rfl (hS.r 23 1 15 rfl) ?_
  refine V_iload_n dX0_haveSameRows_12 rfl rfl ?_
  refine V_callVi (st := [.int r1]) [.int a2] dX0_haveSameRows_13 ok_mX2_widthOf rfl ml_RX0_72 in_mX2_widthOf se_mX2_widthOf (hS.n 15 rfl) (hS.k 15 2 rfl) (by decide) rfl (Nat.le_of_ble_eq_true rfl) (by decide) (by decide) (by decide) (s_mX2_widthOf hS h) (fun r2 I9 J9 h => ?_)
  obtain ⟨rfl, rfl, h⟩ := h
  refine V_icmp_ne 32 dX0_haveSameRows_16 rfl (fun hc => ?_) (fun hc => ?_)
  · replace h := h.1 hc
    refine V_iconst (v := 0) dX0_haveSameRows_32 (by decide) ?_
    exact V_zret dX0_haveSameRows_33 rfl (by decide) (by decide) (by decide) ⟨_, rfl, rfl, rfl, h⟩
  · replace h := h.2 hc
    refine V_aload_n dX0_haveSameRows_19 rfl rfl ?_
    refine V_iload_n dX0_haveSameRows_20 rfl rfl ?_
    refine V_callVi (st := []) [.int a1] dX0_haveSameRows_21 ok_mX0_countOf rfl ml_RX0_65 in_mX0_countOf se_mX0_countOf (hS.n 23 rfl) (hS.k 23 0 rfl) (by decide) rfl (Nat.le_of_ble_eq_true rfl) (by decide) (by decide) (by decide) (s_mX0_countOf hS h) (fun r3 I9 J9 h => ?_)
    obtain ⟨rfl, rfl, h⟩ := h
    refine V_aload_n dX0_haveSameRows_24 rfl rfl ?_
    refine V_iload_n dX0_haveSameRows_25 rfl rfl ?_
    refine V_callVi (st := [.int r3]) [.int a2] dX0_haveSameRows_26 ok_mX0_countOf rfl ml_RX0_65 in_mX0_countOf se_mX0_countOf (hS.n 23 rfl) (hS.k 23 0 rfl) (by decide) rfl (Nat.le_of_ble_eq_true rfl) (by decide) (by decide) (by decide) (s_mX0_countOf hS h) (fun r4 I9 J9 h => ?_)
    obtain ⟨rfl, rfl, h⟩ := h
    refine V_icmp_eq 34 dX0_haveSameRows_29 rfl (fun hc => ?_) (fun hc => ?_)
    · replace h := h.1 hc
      refine V_aload_n dX0_haveSameRows_34 rfl rfl ?_
      refine V_callVv (st := []) [] dX0_haveSameRows_35 ok_mX0_clearGone rfl ml_RX0_75 in_mX0_clearGone se_mX0_clearGone (hS.n 23 rfl) (hS.k 23 0 rfl) (by decide) rfl (Nat.le_of_ble_eq_true rfl) (by decide) (by decide) (by decide) (s_mX0_clearGone hS h) (fun I5 J9 h => ?_)
      obtain ⟨rfl, h⟩ := h
      refine V_iconst (v := 0) dX0_haveSameRows_38 (by decide) ?_
      refine V_istore_n (lo2 := [(3, .int 0), (0, .ref 23), (1, .int a1), (2, .int a2)]) dX0_haveSameRows_39 rfl (by decide) rfl ?_
      refine V_sub (lo2 := [(0, .ref 23), (1, .int a1), (2, .int a2), (3, .int 0)]) [1, 2, 3, 0] rfl ?_
      obtain ⟨f9, h⟩ := h
      refine swX0_haveSameRows_40 hS f9 _ _ h
    · replace h := h.2 hc
      refine V_iconst (v := 0) dX0_haveSameRows_32 (by decide) ?_
      exact V_zret dX0_haveSameRows_33 rfl (by decide) (by decide) (by decide) ⟨_, rfl, rfl, rfl, h⟩
