def wX5_open (t : Nat) (a1 : Int32) (I : QI) (post : QI → Prop) : Prop := (∀ I1 : QI, I1 = q_u2 I (3 + 3 * t) 2 a1 → (∀ I2 : QI, I2 = q_u2 I1 (3 + 3 * t) 3 0 → post I2))
set_option maxRecDepth 100000 in
set_option maxHeartbeats 4000000 in
theorem s_mX5_open {X : QX} {S : QS} {t : Nat} {a1 : Int32} {I : QI} {J : QJ} {post : QI → Prop} (hS : Sh S) (ht : t < 4) (h : wX5_open t a1 I post) : CX X mX5_open 0 0 0 [.ref (3 + 3 * t), .int a1] S I J (q_Pv S (fun I2 J2 => J = J2 ∧ post I2)) := by
  refine CX.of (lo := [(0, .ref (3 + 3 * t)), (1, .int a1)]) ok_mX5_open rfl (Nat.le_of_ble_eq_true rfl) rfl ?_
  replace h : (∀ I1 : QI, I1 = q_u2 I (3 + 3 * t) 2 a1 → (∀ I2 : QI, I2 = q_u2 I1 (3 + 3 * t) 3 0 → post I2)) := h
  refine V_aload_n dX5_open_0 rfl rfl ?_
  refine V_iload_n dX5_open_1 rfl rfl ?_
  refine V_puti dX5_open_2 fl_RX5_19 rfl (hS.tn ht 3 rfl) (hS.tk ht) rfl rfl rfl ?_
  refine V_memI (fun I1 e_I1 => ?_)
  replace h := h I1 e_I1
  refine V_aload_n dX5_open_5 rfl rfl ?_
  refine V_iconst (v := 0) dX5_open_6 (by decide) ?_
  refine V_puti dX5_open_7 fl_RX5_23 rfl (hS.tn ht 3 rfl) (hS.tk ht) rfl rfl rfl ?_
  refine V_memI (fun I2 e_I2 => ?_)
  replace h := h I2 e_I2
  exact V_vret dX5_open_10 rfl (by decide) (by decide) ⟨rfl, rfl, rfl, h⟩
def wX7_isKnownValue (a0 : Int32) (I : QI) (post : Int32 → Prop) : Prop := ((a0 < (-99) → post 0) ∧ (¬ a0 < (-99) → ((99 < a0 → post 0) ∧ (¬ 99 < a0 → post 1))))
set_option maxRecDepth 100000 in
set_option maxHeartbeats 4000000 in
theorem s_mX7_isKnownValue {X : QX} {S : QS} {a0 : Int32} {I : QI} {J : QJ} {post : Int32 → Prop} (hS : Sh S) (h : wX7_isKnownValue a0 I post) : CX X mX7_isKnownValue 0 0 0 [.int a0] S I J (q_Pi S (fun r I2 J2 => I = I2 ∧ J = J2 ∧ post r)) := by
  refine CX.of (lo := [(0, .int a0)]) ok_mX7_isKnownValue rfl (Nat.le_of_ble_eq_true rfl) rfl ?_
  replace h : ((a0 < (-99) → post 0) ∧ (¬ a0 < (-99) → ((99 < a0 → post 0) ∧ (¬ 99 < a0 → post 1)))) := h
  refine V_iload_n dX7_isKnownValue_0 rfl rfl ?_
  refine V_bipush (v := (-99)) dX7_isKnownValue_1 (by decide) ?_
  refine V_icmp_lt 16 dX7_isKnownValue_3 rfl (fun hc => ?_) (fun hc => ?_)
  · replace h := h.1 hc
    refine V_iconst (v := 0) dX7_isKnownValue_16 (by decide) ?_
    exact V_zret dX7_isKnownValue_17 rfl (by decide) (by decide) (by decide) ⟨_, rfl, rfl, rfl, rfl, h⟩
  · replace h := h.2 hc
    refine V_iload_n dX7_isKnownValue_6 rfl rfl ?_
    refine V_bipush (v := 99) dX7_isKnownValue_7 (by decide) ?_
    refine V_icmp_gt 16 dX7_isKnownValue_9 rfl (fun hc => ?_) (fun hc => ?_)
    · replace h := h.1 hc
      refine V_iconst (v := 0) dX7_isKnownValue_16 (by decide) ?_
      exact V_zret dX7_isKnownValue_17 rfl (by decide) (by decide) (by decide) ⟨_, rfl, rfl, rfl, rfl, h⟩
    · replace h := h.2 hc
      refine V_iconst (v := 1) dX7_isKnownValue_12 (by decide) ?_
      refine V_goto 17 dX7_isKnownValue_13 rfl ?_
      exact V_zret dX7_isKnownValue_17 rfl (by decide) (by decide) (by decide) ⟨_, rfl, rfl, rfl, rfl, h⟩
def wX5_allowsIn (t : Nat) (a1 : Int32) (a2 : Int32) (I : QI) (post : Int32 → Prop) : Prop := ((a1 < (I (3 + 3 * t) 2) → ((a2 = (-1000) → post 1) ∧ (¬ a2 = (-1000) → (wX7_isKnownValue a2 I (fun r1 => ((r1 = 0 → post 0) ∧ (¬ r1 = 0 → post 1))))))) ∧ (¬ a1 < (I (3 + 3 * t) 2) → ((¬ a2 = 0 → post 0) ∧ (a2 = 0 → post 1))))
set_option maxRecDepth 100000 in
set_option maxHeartbeats 4000000 in
theorem s_mX5_allowsIn {X : QX} {S : QS} {t : Nat} {a1 : Int32} {a2 : Int32} {I : QI} {J : QJ} {post : Int32 → Prop} (hS : Sh S) (ht : t < 4) (h : wX5_allowsIn t a1 a2 I post) : CX X mX5_allowsIn 1 0 0 [.ref (3 + 3 * t), .int a1, .int a2] S I J (q_Pi S (fun r I2 J2 => I = I2 ∧ J = J2 ∧ post r)) := by
  refine CX.of (lo := [(0, .ref (3 + 3 * t)), (1, .int a1), (2, .int a2)]) ok_mX5_allowsIn rfl (Nat.le_of_ble_eq_true rfl) rfl ?_
  replace h : ((a1 < (I (3 + 3 * t) 2) → ((a2 = (-1000) → post 1) ∧ (¬ a2 = (-1000) → (wX7_isKnownValue a2 I (fun r1 => ((r1 = 0 → post 0) ∧ (¬ r1 = 0 → post 1))))))) ∧ (¬ a1 < (I (3 + 3 * t) 2) → ((¬ a2 = 0 → post 0) ∧ (a2 = 0 → post 1)))) := h
  refine V_iload_n dX5_allowsIn_0 rfl rfl ?_
  refine V_aload_n dX5_allowsIn_1 rfl rfl ?_
  refine V_geti dX5_allowsIn_2 fl_RX5_19 (hS.tn ht 3 rfl) (hS.tk ht) rfl ?_
  refine V_icmp_lt 18 dX5_allowsIn_5 rfl (fun hc => ?_) (fun hc => ?_)
  · replace h := h.1 hc
    refine V_iload_n dX5_allowsIn_18 rfl rfl ?_
    refine V_sipush (v := (-1000)) dX5_allowsIn_19 (by decide) ?_
    refine V_icmp_eq 32 dX5_allowsIn_22 rfl (fun hc => ?_) (fun hc => ?_)
    · replace h := h.1 hc
      refine V_iconst (v := 1) dX5_allowsIn_32 (by decide) ?_
      refine V_goto 37 dX5_allowsIn_33 rfl ?_
      exact V_zret dX5_allowsIn_37 rfl (by decide) (by decide) (by decide) ⟨_, rfl, rfl, rfl, rfl, h⟩
    · replace h := h.2 hc
      refine V_iload_n dX5_allowsIn_25 rfl rfl ?_
      refine V_callSNi (st := []) (host := "QueryLoft") [.int a2] dX5_allowsIn_26 ok_mX7_isKnownValue rfl (by decide) st_mX7_isKnownValue (Nat.le_of_ble_eq_true rfl) (by decide) (by decide) (by decide) (s_mX7_isKnownValue hS h) (fun r1 I9 J9 h => ?_)
      obtain ⟨rfl, rfl, h⟩ := h
      refine V_if_eq 36 dX5_allowsIn_29 rfl (fun hc => ?_) (fun hc => ?_)
      · replace h := h.1 hc
        refine V_iconst (v := 0) dX5_allowsIn_36 (by decide) ?_
        exact V_zret dX5_allowsIn_37 rfl (by decide) (by decide) (by decide) ⟨_, rfl, rfl, rfl, rfl, h⟩
      · replace h := h.2 hc
        refine V_iconst (v := 1) dX5_allowsIn_32 (by decide) ?_
        refine V_goto 37 dX5_allowsIn_33 rfl ?_
        exact V_zret dX5_allowsIn_37 rfl (by decide) (by decide) (by decide) ⟨_, rfl, rfl, rfl, rfl, h⟩
  · replace h := h.2 hc
    refine V_iload_n dX5_allowsIn_8 rfl rfl ?_
    refine V_if_ne 16 dX5_allowsIn_9 rfl (fun hc => ?_) (fun hc => ?_)
    · replace h := h.1 hc
      refine V_iconst (v := 0) dX5_allowsIn_16 (by decide) ?_
      exact V_zret dX5_allowsIn_17 rfl (by decide) (by decide) (by decide) ⟨_, rfl, rfl, rfl, rfl, h⟩
    · replace h := h.2 hc
      refine V_iconst (v := 1) dX5_allowsIn_12 (by decide) ?_
      refine V_goto 17 dX5_allowsIn_13 rfl ?_
      exact V_zret dX5_allowsIn_17 rfl (by decide) (by decide) (by decide) ⟨_, rfl, rfl, rfl, rfl, h⟩
def wX5_allows (t : Nat) (a1 : Int32) (a2 : Int32) (a3 : Int32) (I : QI) (post : Int32 → Prop) : Prop := (wX5_allowsIn t 0 a1 I (fun r1 => ((r1 = 0 → post 0) ∧ (¬ r1 = 0 → (wX5_allowsIn t 1 a2 I (fun r2 => ((r2 = 0 → post 0) ∧ (¬ r2 = 0 → (wX5_allowsIn t 2 a3 I (fun r3 => ((r3 = 0 → post 0) ∧ (¬ r3 = 0 → post 1))))))))))))
set_option maxRecDepth 100000 in
set_option maxHeartbeats 4000000 in
theorem s_mX5_allows {X : QX} {S : QS} {t : Nat} {a1 : Int32} {a2 : Int32} {a3 : Int32} {I : QI} {J : QJ} {post : Int32 → Prop} (hS : Sh S) (ht : t < 4) (h : wX5_allows t a1 a2 a3 I post) : CX X mX5_allows 2 0 0 [.ref (3 + 3 * t), .int a1, .int a2, .int a3] S I J (q_Pi S (fun r I2 J2 => I = I2 ∧ J = J2 ∧ post r)) := by
  refine CX.of (lo := [(0, .ref (3 + 3 * t)), (1, .int a1), (2, .int a2), (3, .int a3)]) ok_mX5_allows rfl (Nat.le_of_ble_eq_true rfl) rfl ?_
  replace h : (wX5_allowsIn t 0 a1 I (fun r1 => ((r1 = 0 → post 0) ∧ (¬ r1 = 0 → (wX5_allowsIn t 1 a2 I (fun r2 => ((r2 = 0 → post 0) ∧ (¬ r2 = 0 → (wX5_allowsIn t 2 a3 I (fun r3 => ((r3 = 0 → post 0) ∧ (¬ r3 = 0 → post 1)))))))))))) := h
  refine V_aload_n dX5_allows_0 rfl rfl ?_
  refine V_iconst (v := 0) dX5_allows_1 (by decide) ?_
  refine V_iload_n dX5_allows_2 rfl rfl ?_
  refine V_callVi (st := []) [.int 0, .int a1] dX5_allows_3 ok_mX5_allowsIn rfl ml_RX5_26 in_mX5_allowsIn se_mX5_allowsIn (hS.tn ht 3 rfl) (hS.tk ht) (by decide) rfl (Nat.le_of_ble_eq_true rfl) (by decide) (by decide) (by decide) (s_mX5_allowsIn hS ht h) (fun r1 I9 J9 h => ?_)
  obtain ⟨rfl, rfl, h⟩ := h
  refine V_if_eq 31 dX5_allows_6 rfl (fun hc => ?_) (fun hc => ?_)
  · replace h := h.1 hc
    refine V_iconst (v := 0) dX5_allows_31 (by decide) ?_
    exact V_zret dX5_allows_32 rfl (by decide) (by decide) (by decide) ⟨_, rfl, rfl, rfl, rfl, h⟩
  · replace h := h.2 hc
    refine V_aload_n dX5_allows_9 rfl rfl ?_
    refine V_iconst (v := 1) dX5_allows_10 (by decide) ?_
    refine V_iload_n dX5_allows_11 rfl rfl ?_
    refine V_callVi (st := []) [.int 1, .int a2] dX5_allows_12 ok_mX5_allowsIn rfl ml_RX5_26 in_mX5_allowsIn se_mX5_allowsIn (hS.tn ht 3 rfl) (hS.tk ht) (by decide) rfl (Nat.le_of_ble_eq_true rfl) (by decide) (by decide) (by decide) (s_mX5_allowsIn hS ht h) (fun r2 I9 J9 h => ?_)
    obtain ⟨rfl, rfl, h⟩ := h
    refine V_if_eq 31 dX5_allows_15 rfl (fun hc => ?_) (fun hc => ?_)
    · replace h := h.1 hc
      refine V_iconst (v := 0) dX5_allows_31 (by decide) ?_
      exact V_zret dX5_allows_32 rfl (by decide) (by decide) (by decide) ⟨_, rfl, rfl, rfl, rfl, h⟩
    · replace h := h.2 hc
      refine V_aload_n dX5_allows_18 rfl rfl ?_
      refine V_iconst (v := 2) dX5_allows_19 (by decide) ?_
      refine V_iload_n dX5_allows_20 rfl rfl ?_
      refine V_callVi (st := []) [.int 2, .int a3] dX5_allows_21 ok_mX5_allowsIn rfl ml_RX5_26 in_mX5_allowsIn se_mX5_allowsIn (hS.tn ht 3 rfl) (hS.tk ht) (by decide) rfl (Nat.le_of_ble_eq_true rfl) (by decide) (by decide) (by decide) (s_mX5_allowsIn hS ht h) (fun r3 I9 J9 h => ?_)
      obtain ⟨rfl, rfl, h⟩ := h
      refine V_if_eq 31 dX5_allows_24 rfl (fun hc => ?_) (fun hc => ?_)
      · replace h := h.1 hc
        refine V_iconst (v := 0) dX5_allows_31 (by decide) ?_
        exact V_zret dX5_allows_32 rfl (by decide) (by decide) (by decide) ⟨_, rfl, rfl, rfl, rfl, h⟩
      · replace h := h.2 hc
        refine V_iconst (v := 1) dX5_allows_27 (by decide) ?_
        refine V_goto 32 dX5_allows_28 rfl ?_
        exact V_zret dX5_allows_32 rfl (by decide) (by decide) (by decide) ⟨_, rfl, rfl, rfl, rfl, h⟩
def wX5_append (t : Nat) (a1 : Int32) (a2 : Int32) (a3 : Int32) (I : QI) (post : QI → Prop) : Prop := (((I (3 + 3 * t) 3) < 10 → (∀ v1 : Int32, v1 = ((I (3 + 3 * t) 3) * 3) → (vp_in v1 30 ∧ (∀ I2 : QI, I2 = q_u2 I (4 + 3 * t) (v1).toNatClampNeg a1 → (vp_in (v1 + 1) 30 ∧ (∀ I3 : QI, I3 = q_u2 I2 (4 + 3 * t) ((v1 + 1)).toNatClampNeg a2 → (vp_in (v1 + 2) 30 ∧ (∀ I4 : QI, I4 = q_u2 I3 (4 + 3 * t) ((v1 + 2)).toNatClampNeg a3 → (∀ I5 : QI, I5 = q_u2 I4 (3 + 3 * t) 3 ((I4 (3 + 3 * t) 3) + 1) → post I5))))))))) ∧ (¬ (I (3 + 3 * t) 3) < 10 → post I))
set_option maxRecDepth 100000 in
set_option maxHeartbeats 4000000 in
theorem s_mX5_append {X : QX} {S : QS} {t : Nat} {a1 : Int32} {a2 : Int32} {a3 : Int32} {I : QI} {J : QJ} {post : QI → Prop} (hS : Sh S) (ht : t < 4) (h : wX5_append t a1 a2 a3 I post) : CX X mX5_append 0 0 0 [.ref (3 + 3 * t), .int a1, .int a2, .int a3] S I J (q_Pv S (fun I2 J2 => J = J2 ∧ post I2)) := by
  refine CX.of (lo := [(0, .ref (3 + 3 * t)), (1, .int a1), (2, .int a2), (3, .int a3)]) ok_mX5_append rfl (Nat.le_of_ble_eq_true rfl) rfl ?_
  replace h : (((I (3 + 3 * t) 3) < 10 → (∀ v1 : Int32, v1 = ((I (3 + 3 * t) 3) * 3) → (vp_in v1 30 ∧ (∀ I2 : QI, I2 = q_u2 I (4 + 3 * t) (v1).toNatClampNeg a1 → (vp_in (v1 + 1) 30 ∧ (∀ I3 : QI, I3 = q_u2 I2 (4 + 3 * t) ((v1 + 1)).toNatClampNeg a2 → (vp_in (v1 + 2) 30 ∧ (∀ I4 : QI, I4 = q_u2 I3 (4 + 3 * t) ((v1 + 2)).toNatClampNeg a3 → (∀ I5 : QI, I5 = q_u2 I4 (3 + 3 * t) 3 ((I4 (3 + 3 * t) 3) + 1) → post I5))))))))) ∧ (¬ (I (3 + 3 * t) 3) < 10 → post I)) := h
  refine V_aload_n dX5_append_0 rfl rfl ?_
  refine V_geti dX5_append_1 fl_RX5_23 (hS.tn ht 3 rfl) (hS.tk ht) rfl ?_
  refine V_bipush (v := 10) dX5_append_4 (by decide) ?_
  refine V_icmp_lt 10 dX5_append_6 rfl (fun hc => ?_) (fun hc => ?_)
  · replace h := h.1 hc
    refine V_aload_n dX5_append_10 rfl rfl ?_
    refine V_geti dX5_append_11 fl_RX5_23 (hS.tn ht 3 rfl) (hS.tk ht) rfl ?_
    refine V_iconst (v := 3) dX5_append_14 (by decide) ?_
    refine V_imul dX5_append_15 ?_
    refine V_topi (fun v1 e_v1 => ?_)
    replace h := h v1 e_v1
    refine V_istore (lo2 := [(4, .int v1), (0, .ref (3 + 3 * t)), (1, .int a1), (2, .int a2), (3, .int a3)]) dX5_append_16 (by decide) rfl ?_
    refine V_aload_n dX5_append_18 rfl rfl ?_
    refine V_getr dX5_append_19 fl_RX5_9 (hS.tn ht 3 rfl) (hS.tk ht) rfl (hS.trv ht) ?_
    refine V_iload dX5_append_22 rfl ?_
    refine V_iload_n dX5_append_24 rfl rfl ?_
    obtain ⟨hb, h⟩ := h
    refine V_iast dX5_append_25 (hS.tn ht 4 rfl) (hS.tvk ht) (by rw [(hS.tvz ht)]; exact hb) ?_
    refine V_memI (fun I2 e_I2 => ?_)
    replace h := h I2 e_I2
    refine V_aload_n dX5_append_26 rfl rfl ?_
    refine V_getr dX5_append_27 fl_RX5_9 (hS.tn ht 3 rfl) (hS.tk ht) rfl (hS.trv ht) ?_
    refine V_iload dX5_append_30 rfl ?_
    refine V_iconst (v := 1) dX5_append_32 (by decide) ?_
    refine V_iadd dX5_append_33 ?_
    refine V_iload_n dX5_append_34 rfl rfl ?_
    obtain ⟨hb, h⟩ := h
    refine V_iast dX5_append_35 (hS.tn ht 4 rfl) (hS.tvk ht) (by rw [(hS.tvz ht)]; exact hb) ?_
    refine V_memI (fun I3 e_I3 => ?_)
    replace h := h I3 e_I3
    refine V_aload_n dX5_append_36 rfl rfl ?_
    refine V_getr dX5_append_37 fl_RX5_9 (hS.tn ht 3 rfl) (hS.tk ht) rfl (hS.trv ht) ?_
    refine V_iload dX5_append_40 rfl ?_
    refine V_iconst (v := 2) dX5_append_42 (by decide) ?_
    refine V_iadd dX5_append_43 ?_
    refine V_iload_n dX5_append_44 rfl rfl ?_
    obtain ⟨hb, h⟩ := h
    refine V_iast dX5_append_45 (hS.tn ht 4 rfl) (hS.tvk ht) (by rw [(hS.tvz ht)]; exact hb) ?_
    refine V_memI (fun I4 e_I4 => ?_)
    replace h := h I4 e_I4
    refine V_aload_n dX5_append_46 rfl rfl ?_
    refine V_dup dX5_append_47 rfl ?_
    refine V_geti dX5_append_48 fl_RX5_23 (hS.tn ht 3 rfl) (hS.tk ht) rfl ?_
    refine V_iconst (v := 1) dX5_append_51 (by decide) ?_
    refine V_iadd dX5_append_52 ?_
    refine V_puti dX5_append_53 fl_RX5_23 rfl (hS.tn ht 3 rfl) (hS.tk ht) rfl rfl rfl ?_
    refine V_memI (fun I5 e_I5 => ?_)
    replace h := h I5 e_I5
    exact V_vret dX5_append_56 rfl (by decide) (by decide) ⟨rfl, rfl, rfl, h⟩
  · replace h := h.2 hc
    exact V_vret dX5_append_9 rfl (by decide) (by decide) ⟨rfl, rfl, rfl, h⟩
def wX5_count (t : Nat) (I : QI) (post : Int32 → Prop) : Prop := post (I (3 + 3 * t) 3)
set_option maxRecDepth 100000 in
set_option maxHeartbeats 4000000 in
theorem s_mX5_count {X : QX} {S : QS} {t : Nat} {I : QI} {J : QJ} {post : Int32 → Prop} (hS : Sh S) (ht : t < 4) (h : wX5_count t I post) : CX X mX5_count 0 0 0 [.ref (3 + 3 * t)] S I J (q_Pi S (fun r I2 J2 => I = I2 ∧ J = J2 ∧ post r)) := by
  refine CX.of (lo := [(0, .ref (3 + 3 * t))]) ok_mX5_count rfl (Nat.le_of_ble_eq_true rfl) rfl ?_
  replace h : post (I (3 + 3 * t) 3) := h
  refine V_aload_n dX5_count_0 rfl rfl ?_
  refine V_geti dX5_count_1 fl_RX5_23 (hS.tn ht 3 rfl) (hS.tk ht) rfl ?_
  exact V_iret dX5_count_4 rfl (by decide) (by decide) ⟨_, rfl, rfl, rfl, rfl, h⟩
def wX5_isFull (t : Nat) (I : QI) (post : Int32 → Prop) : Prop := (((I (3 + 3 * t) 3) < 10 → post 0) ∧ (¬ (I (3 + 3 * t) 3) < 10 → post 1))
set_option maxRecDepth 100000 in
set_option maxHeartbeats 4000000 in
theorem s_mX5_isFull {X : QX} {S : QS} {t : Nat} {I : QI} {J : QJ} {post : Int32 → Prop} (hS : Sh S) (ht : t < 4) (h : wX5_isFull t I post) : CX X mX5_isFull 0 0 0 [.ref (3 + 3 * t)] S I J (q_Pi S (fun r I2 J2 => I = I2 ∧ J = J2 ∧ post r)) := by
  refine CX.of (lo := [(0, .ref (3 + 3 * t))]) ok_mX5_isFull rfl (Nat.le_of_ble_eq_true rfl) rfl ?_
  replace h : (((I (3 + 3 * t) 3) < 10 → post 0) ∧ (¬ (I (3 + 3 * t) 3) < 10 → post 1)) := h
  refine V_aload_n dX5_isFull_0 rfl rfl ?_
  refine V_geti dX5_isFull_1 fl_RX5_23 (hS.tn ht 3 rfl) (hS.tk ht) rfl ?_
  refine V_bipush (v := 10) dX5_isFull_4 (by decide) ?_
  refine V_icmp_lt 13 dX5_isFull_6 rfl (fun hc => ?_) (fun hc => ?_)
  · replace h := h.1 hc
    refine V_iconst (v := 0) dX5_isFull_13 (by decide) ?_
    exact V_zret dX5_isFull_14 rfl (by decide) (by decide) (by decide) ⟨_, rfl, rfl, rfl, rfl, h⟩
  · replace h := h.2 hc
    refine V_iconst (v := 1) dX5_isFull_9 (by decide) ?_
    refine V_goto 14 dX5_isFull_10 rfl ?_
    exact V_zret dX5_isFull_14 rfl (by decide) (by decide) (by decide) ⟨_, rfl, rfl, rfl, rfl, h⟩
def wX5_hasRow (t : Nat) (a1 : Int32) (I : QI) (post : Int32 → Prop) : Prop := ((a1 < 0 → post 0) ∧ (¬ a1 < 0 → (((I (3 + 3 * t) 3) ≤ a1 → post 0) ∧ (¬ (I (3 + 3 * t) 3) ≤ a1 → post 1))))
set_option maxRecDepth 100000 in
set_option maxHeartbeats 4000000 in
theorem s_mX5_hasRow {X : QX} {S : QS} {t : Nat} {a1 : Int32} {I : QI} {J : QJ} {post : Int32 → Prop} (hS : Sh S) (ht : t < 4) (h : wX5_hasRow t a1 I post) : CX X mX5_hasRow 0 0 0 [.ref (3 + 3 * t), .int a1] S I J (q_Pi S (fun r I2 J2 => I = I2 ∧ J = J2 ∧ post r)) := by
  refine CX.of (lo := [(0, .ref (3 + 3 * t)), (1, .int a1)]) ok_mX5_hasRow rfl (Nat.le_of_ble_eq_true rfl) rfl ?_
  replace h : ((a1 < 0 → post 0) ∧ (¬ a1 < 0 → (((I (3 + 3 * t) 3) ≤ a1 → post 0) ∧ (¬ (I (3 + 3 * t) 3) ≤ a1 → post 1)))) := h
  refine V_iload_n dX5_hasRow_0 rfl rfl ?_
  refine V_if_lt 16 dX5_hasRow_1 rfl (fun hc => ?_) (fun hc => ?_)
  · replace h := h.1 hc
    refine V_iconst (v := 0) dX5_hasRow_16 (by decide) ?_
    exact V_zret dX5_hasRow_17 rfl (by decide) (by decide) (by decide) ⟨_, rfl, rfl, rfl, rfl, h⟩
  · replace h := h.2 hc
    refine V_iload_n dX5_hasRow_4 rfl rfl ?_
    refine V_aload_n dX5_hasRow_5 rfl rfl ?_
    refine V_geti dX5_hasRow_6 fl_RX5_23 (hS.tn ht 3 rfl) (hS.tk ht) rfl ?_
    refine V_icmp_ge 16 dX5_hasRow_9 rfl (fun hc => ?_) (fun hc => ?_)
    · replace h := h.1 hc
      refine V_iconst (v := 0) dX5_hasRow_16 (by decide) ?_
      exact V_zret dX5_hasRow_17 rfl (by decide) (by decide) (by decide) ⟨_, rfl, rfl, rfl, rfl, h⟩
    · replace h := h.2 hc
      refine V_iconst (v := 1) dX5_hasRow_12 (by decide) ?_
      refine V_goto 17 dX5_hasRow_13 rfl ?_
      exact V_zret dX5_hasRow_17 rfl (by decide) (by decide) (by decide) ⟨_, rfl, rfl, rfl, rfl, h⟩
def wX5_remove_27 (t : Nat) (a1 : Int32) (post : QI → Prop) : Nat → Int32 → QI → Prop
  | 0, _, _ => False
  | n + 1, x2, I => ((((I (3 + 3 * t) 3) * 3) ≤ x2 → post I) ∧ (¬ ((I (3 + 3 * t) 3) * 3) ≤ x2 → (vp_in (x2 + 3) 30 ∧ (vp_in x2 30 ∧ (∀ I3 : QI, I3 = q_u2 I (4 + 3 * t) (x2).toNatClampNeg (I (4 + 3 * t) ((x2 + 3)).toNatClampNeg) → (∀ v4 : Int32, v4 = (x2 + 1) → (wX5_remove_27 t a1 post n v4 I3)))))))
set_option maxRecDepth 100000 in
set_option maxHeartbeats 4000000 in
theorem swX5_remove_27 {X : QX} {S : QS} {t : Nat} {a1 : Int32} {J : QJ} {post : QI → Prop} (hS : Sh S) (ht : t < 4) : ∀ (f : Nat) (x2 : Int32) (I : QI), wX5_remove_27 t a1 post f x2 I → V X mX5_remove 0 0 0 (q_Pv S (fun I2 J2 => J = J2 ∧ post I2)) 27 [(0, .ref (3 + 3 * t)), (2, .int x2)] [] S I J 0 0 := by
  intro f
  induction f with
  | zero => intro x2 I h; exact h.elim
  | succ n ih =>
    intro x2 I h
    replace h : ((((I (3 + 3 * t) 3) * 3) ≤ x2 → post I) ∧ (¬ ((I (3 + 3 * t) 3) * 3) ≤ x2 → (vp_in (x2 + 3) 30 ∧ (vp_in x2 30 ∧ (∀ I3 : QI, I3 = q_u2 I (4 + 3 * t) (x2).toNatClampNeg (I (4 + 3 * t) ((x2 + 3)).toNatClampNeg) → (∀ v4 : Int32, v4 = (x2 + 1) → (wX5_remove_27 t a1 post n v4 I3))))))) := h
    refine V_iload_n dX5_remove_27 rfl rfl ?_
    refine V_aload_n dX5_remove_28 rfl rfl ?_
    refine V_geti dX5_remove_29 fl_RX5_23 (hS.tn ht 3 rfl) (hS.tk ht) rfl ?_
    refine V_iconst (v := 3) dX5_remove_32 (by decide) ?_
    refine V_imul dX5_remove_33 ?_
    refine V_icmp_ge 57 dX5_remove_34 rfl (fun hc => ?_) (fun hc => ?_)
    · replace h := h.1 hc
      exact V_vret dX5_remove_57 rfl (by decide) (by decide) ⟨rfl, rfl, rfl, h⟩
    · replace h := h.2 hc
      refine V_aload_n dX5_remove_37 rfl rfl ?_
      refine V_getr dX5_remove_38 fl_RX5_9 (hS.tn ht 3 rfl) (hS.tk ht) rfl (hS.trv ht) ?_
      refine V_iload_n dX5_remove_41 rfl rfl ?_
      refine V_aload_n dX5_remove_42 rfl rfl ?_
      refine V_getr dX5_remove_43 fl_RX5_9 (hS.tn ht 3 rfl) (hS.tk ht) rfl (hS.trv ht) ?_
      refine V_iload_n dX5_remove_46 rfl rfl ?_
      refine V_iconst (v := 3) dX5_remove_47 (by decide) ?_
      refine V_iadd dX5_remove_48 ?_
      obtain ⟨hb, h⟩ := h
      refine V_iald dX5_remove_49 (hS.tn ht 4 rfl) (hS.tvk ht) (by rw [(hS.tvz ht)]; exact hb) ?_
      obtain ⟨hb, h⟩ := h
      refine V_iast dX5_remove_50 (hS.tn ht 4 rfl) (hS.tvk ht) (by rw [(hS.tvz ht)]; exact hb) ?_
      refine V_memI (fun I3 e_I3 => ?_)
      replace h := h I3 e_I3
      obtain ⟨v4, e_v4⟩ : ∃ z : Int32, z = (x2 + 1) := ⟨_, rfl⟩
      replace h := h v4 e_v4
      refine V_iinc (lo2 := [(2, .int v4), (0, .ref (3 + 3 * t))]) 1 dX5_remove_51 rfl (v := v4) (by rw [e_v4]; first | done | rfl) (by decide) rfl ?_
      refine V_goto 27 dX5_remove_54 rfl ?_
      refine V_sub (lo2 := [(0, .ref (3 + 3 * t)), (2, .int v4)]) [1, 0] rfl ?_
      exact ih _ _ h
def wX5_remove (t : Nat) (a1 : Int32) (I : QI) (post : QI → Prop) : Prop := ((a1 < 0 → post I) ∧ (¬ a1 < 0 → ((a1 < (I (3 + 3 * t) 3) → (∀ I1 : QI, I1 = q_u2 I (3 + 3 * t) 3 ((I (3 + 3 * t) 3) - 1) → (∀ v2 : Int32, v2 = (a1 * 3) → (∃ f : Nat, wX5_remove_27 t a1 post f v2 I1)))) ∧ (¬ a1 < (I (3 + 3 * t) 3) → post I))))
set_option maxRecDepth 100000 in
set_option maxHeartbeats 4000000 in
theorem s_mX5_remove {X : QX} {S : QS} {t : Nat} {a1 : Int32} {I : QI} {J : QJ} {post : QI → Prop} (hS : Sh S) (ht : t < 4) (h : wX5_remove t a1 I post) : CX X mX5_remove 0 0 0 [.ref (3 + 3 * t), .int a1] S I J (q_Pv S (fun I2 J2 => J = J2 ∧ post I2)) := by
  refine CX.of (lo := [(0, .ref (3 + 3 * t)), (1, .int a1)]) ok_mX5_remove rfl (Nat.le_of_ble_eq_true rfl) rfl ?_
  replace h : ((a1 < 0 → post I) ∧ (¬ a1 < 0 → ((a1 < (I (3 + 3 * t) 3) → (∀ I1 : QI, I1 = q_u2 I (3 + 3 * t) 3 ((I (3 + 3 * t) 3) - 1) → (∀ v2 : Int32, v2 = (a1 * 3) → (∃ f : Nat, wX5_remove_27 t a1 post f v2 I1)))) ∧ (¬ a1 < (I (3 + 3 * t) 3) → post I)))) := h
  refine V_iload_n dX5_remove_0 rfl rfl ?_
  refine V_if_lt 12 dX5_remove_1 rfl (fun hc => ?_) (fun hc => ?_)
  · replace h := h.1 hc
    exact V_vret dX5_remove_12 rfl (by decide) (by decide) ⟨rfl, rfl, rfl, h⟩
  · replace h := h.2 hc
    refine V_iload_n dX5_remove_4 rfl rfl ?_
    refine V_aload_n dX5_remove_5 rfl rfl ?_
    refine V_geti dX5_remove_6 fl_RX5_23 (hS.tn ht 3 rfl) (hS.tk ht) rfl ?_
    refine V_icmp_lt 13 dX5_remove_9 rfl (fun hc => ?_) (fun hc => ?_)
    · replace h := h.1 hc
      refine V_aload_n dX5_remove_13 rfl rfl ?_
      refine V_dup dX5_remove_14 rfl ?_
      refine V_geti dX5_remove_15 fl_RX5_23 (hS.tn ht 3 rfl) (hS.tk ht) rfl ?_
      refine V_iconst (v := 1) dX5_remove_18 (by decide) ?_
      refine V_isub dX5_remove_19 ?_
      refine V_puti dX5_remove_20 fl_RX5_23 rfl (hS.tn ht 3 rfl) (hS.tk ht) rfl rfl rfl ?_
      refine V_memI (fun I1 e_I1 => ?_)
      replace h := h I1 e_I1
      refine V_iload_n dX5_remove_23 rfl rfl ?_
      refine V_iconst (v := 3) dX5_remove_24 (by decide) ?_
      refine V_imul dX5_remove_25 ?_
      refine V_topi (fun v2 e_v2 => ?_)
      replace h := h v2 e_v2
      refine V_istore_n (lo2 := [(2, .int v2), (0, .ref (3 + 3 * t)), (1, .int a1)]) dX5_remove_26 rfl (by decide) rfl ?_
      refine V_sub (lo2 := [(0, .ref (3 + 3 * t)), (2, .int v2)]) [1, 0] rfl ?_
      obtain ⟨f9, h⟩ := h
      refine swX5_remove_27 hS ht f9 _ _ h
    · replace h := h.2 hc
      exact V_vret dX5_remove_12 rfl (by decide) (by decide) ⟨rfl, rfl, rfl, h⟩
def wX5_columns (t : Nat) (I : QI) (post : Int32 → Prop) : Prop := post (I (3 + 3 * t) 2)
set_option maxRecDepth 100000 in
set_option maxHeartbeats 4000000 in
theorem s_mX5_columns {X : QX} {S : QS} {t : Nat} {I : QI} {J : QJ} {post : Int32 → Prop} (hS : Sh S) (ht : t < 4) (h : wX5_columns t I post) : CX X mX5_columns 0 0 0 [.ref (3 + 3 * t)] S I J (q_Pi S (fun r I2 J2 => I = I2 ∧ J = J2 ∧ post r)) := by
  refine CX.of (lo := [(0, .ref (3 + 3 * t))]) ok_mX5_columns rfl (Nat.le_of_ble_eq_true rfl) rfl ?_
  replace h : post (I (3 + 3 * t) 2) := h
  refine V_aload_n dX5_columns_0 rfl rfl ?_
  refine V_geti dX5_columns_1 fl_RX5_19 (hS.tn ht 3 rfl) (hS.tk ht) rfl ?_
  exact V_iret dX5_columns_4 rfl (by decide) (by decide) ⟨_, rfl, rfl, rfl, rfl, h⟩
def wX7_holds (a0 : Int32) (a1 : Int32) (a2 : Int32) (I : QI) (post : Int32 → Prop) : Prop := ((a0 = 0 → ((¬ a1 = a2 → post 0) ∧ (a1 = a2 → post 1))) ∧ (a0 = 1 → ((a1 = a2 → post 0) ∧ (¬ a1 = a2 → post 1))) ∧ (a0 = 2 → ((a2 ≤ a1 → post 0) ∧ (¬ a2 ≤ a1 → post 1))) ∧ (a0 = 3 → ((a1 ≤ a2 → post 0) ∧ (¬ a1 ≤ a2 → post 1))) ∧ (¬ a0 = 0 → ¬ a0 = 1 → ¬ a0 = 2 → ¬ a0 = 3 → post 0))
set_option maxRecDepth 100000 in
set_option maxHeartbeats 4000000 in
theorem s_mX7_holds {X : QX} {S : QS} {a0 : Int32} {a1 : Int32} {a2 : Int32} {I : QI} {J : QJ} {post : Int32 → Prop} (hS : Sh S) (h : wX7_holds a0 a1 a2 I post) : CX X mX7_holds 0 0 0 [.int a0, .int a1, .int a2] S I J (q_Pi S (fun r I2 J2 => I = I2 ∧ J = J2 ∧ post r)) := by
  refine CX.of (lo := [(0, .int a0), (1, .int a1), (2, .int a2)]) ok_mX7_holds rfl (Nat.le_of_ble_eq_true rfl) rfl ?_
  replace h : ((a0 = 0 → ((¬ a1 = a2 → post 0) ∧ (a1 = a2 → post 1))) ∧ (a0 = 1 → ((a1 = a2 → post 0) ∧ (¬ a1 = a2 → post 1))) ∧ (a0 = 2 → ((a2 ≤ a1 → post 0) ∧ (¬ a2 ≤ a1 → post 1))) ∧ (a0 = 3 → ((a1 ≤ a2 → post 0) ∧ (¬ a1 ≤ a2 → post 1))) ∧ (¬ a0 = 0 → ¬ a0 = 1 → ¬ a0 = 2 → ¬ a0 = 3 → post 0)) := h
  refine V_iload_n dX7_holds_0 rfl rfl ?_
  by_cases hc0 : a0 = 0
  · replace h := h.1 hc0
    refine V_tableIn 32 dX7_holds_1 (by rw [hc0]; decide) (by rw [hc0]; decide) (by rw [hc0]; first | done | rfl) rfl ?_
    refine V_iload_n dX7_holds_32 rfl rfl ?_
    refine V_iload_n dX7_holds_33 rfl rfl ?_
    refine V_icmp_ne 41 dX7_holds_34 rfl (fun hc => ?_) (fun hc => ?_)
    · replace h := h.1 hc
      refine V_iconst (v := 0) dX7_holds_41 (by decide) ?_
      exact V_zret dX7_holds_42 rfl (by decide) (by decide) (by decide) ⟨_, rfl, rfl, rfl, rfl, h⟩
    · replace h := h.2 hc
      refine V_iconst (v := 1) dX7_holds_37 (by decide) ?_
      refine V_goto 42 dX7_holds_38 rfl ?_
      exact V_zret dX7_holds_42 rfl (by decide) (by decide) (by decide) ⟨_, rfl, rfl, rfl, rfl, h⟩
  by_cases hc1 : a0 = 1
  · replace h := h.2.1 hc1
    refine V_tableIn 43 dX7_holds_1 (by rw [hc1]; decide) (by rw [hc1]; decide) (by rw [hc1]; first | done | rfl) rfl ?_
    refine V_iload_n dX7_holds_43 rfl rfl ?_
    refine V_iload_n dX7_holds_44 rfl rfl ?_
    refine V_icmp_eq 52 dX7_holds_45 rfl (fun hc => ?_) (fun hc => ?_)
    · replace h := h.1 hc
      refine V_iconst (v := 0) dX7_holds_52 (by decide) ?_
      exact V_zret dX7_holds_53 rfl (by decide) (by decide) (by decide) ⟨_, rfl, rfl, rfl, rfl, h⟩
    · replace h := h.2 hc
      refine V_iconst (v := 1) dX7_holds_48 (by decide) ?_
      refine V_goto 53 dX7_holds_49 rfl ?_
      exact V_zret dX7_holds_53 rfl (by decide) (by decide) (by decide) ⟨_, rfl, rfl, rfl, rfl, h⟩
  by_cases hc2 : a0 = 2
  · replace h := h.2.2.1 hc2
    refine V_tableIn 54 dX7_holds_1 (by rw [hc2]; decide) (by rw [hc2]; decide) (by rw [hc2]; first | done | rfl) rfl ?_
    refine V_iload_n dX7_holds_54 rfl rfl ?_
    refine V_iload_n dX7_holds_55 rfl rfl ?_
    refine V_icmp_ge 63 dX7_holds_56 rfl (fun hc => ?_) (fun hc => ?_)
    · replace h := h.1 hc
      refine V_iconst (v := 0) dX7_holds_63 (by decide) ?_
      exact V_zret dX7_holds_64 rfl (by decide) (by decide) (by decide) ⟨_, rfl, rfl, rfl, rfl, h⟩
    · replace h := h.2 hc
      refine V_iconst (v := 1) dX7_holds_59 (by decide) ?_
      refine V_goto 64 dX7_holds_60 rfl ?_
      exact V_zret dX7_holds_64 rfl (by decide) (by decide) (by decide) ⟨_, rfl, rfl, rfl, rfl, h⟩
  by_cases hc3 : a0 = 3
  · replace h := h.2.2.2.1 hc3
    refine V_tableIn 65 dX7_holds_1 (by rw [hc3]; decide) (by rw [hc3]; decide) (by rw [hc3]; first | done | rfl) rfl ?_
    refine V_iload_n dX7_holds_65 rfl rfl ?_
    refine V_iload_n dX7_holds_66 rfl rfl ?_
    refine V_icmp_le 74 dX7_holds_67 rfl (fun hc => ?_) (fun hc => ?_)
    · replace h := h.1 hc
      refine V_iconst (v := 0) dX7_holds_74 (by decide) ?_
      exact V_zret dX7_holds_75 rfl (by decide) (by decide) (by decide) ⟨_, rfl, rfl, rfl, rfl, h⟩
    · replace h := h.2 hc
      refine V_iconst (v := 1) dX7_holds_70 (by decide) ?_
      refine V_goto 75 dX7_holds_71 rfl ?_
      exact V_zret dX7_holds_75 rfl (by decide) (by decide) (by decide) ⟨_, rfl, rfl, rfl, rfl, h⟩
  replace h := h.2.2.2.2 hc0 hc1 hc2 hc3
  have n0 := q_tsw (c := 0) hc0 (by decide) (by decide)
  have n1 := q_tsw (c := 1) hc1 (by decide) (by decide)
  have n2 := q_tsw (c := 2) hc2 (by decide) (by decide)
  have n3 := q_tsw (c := 3) hc3 (by decide) (by decide)
  refine V_tableOut 76 dX7_holds_1 (by omega) rfl ?_
  refine V_iconst (v := 0) dX7_holds_76 (by decide) ?_
  exact V_zret dX7_holds_77 rfl (by decide) (by decide) (by decide) ⟨_, rfl, rfl, rfl, rfl, h⟩
def wX7_isTrue (a0 : Int32) (a1 : Int32) (a2 : Int32) (I : QI) (post : Int32 → Prop) : Prop := ((a0 = 4 → ((¬ a1 = (-1000) → post 0) ∧ (a1 = (-1000) → post 1))) ∧ (a0 = 5 → ((a1 = (-1000) → post 0) ∧ (¬ a1 = (-1000) → post 1))) ∧ (¬ a0 = 4 → ¬ a0 = 5 → ((a1 = (-1000) → post 0) ∧ (¬ a1 = (-1000) → ((a2 = (-1000) → post 0) ∧ (¬ a2 = (-1000) → (wX7_holds a0 a1 a2 I (fun r1 => ((r1 = 0 → post 0) ∧ (¬ r1 = 0 → post 1))))))))))
set_option maxRecDepth 100000 in
set_option maxHeartbeats 4000000 in
theorem s_mX7_isTrue {X : QX} {S : QS} {a0 : Int32} {a1 : Int32} {a2 : Int32} {I : QI} {J : QJ} {post : Int32 → Prop} (hS : Sh S) (h : wX7_isTrue a0 a1 a2 I post) : CX X mX7_isTrue 1 0 0 [.int a0, .int a1, .int a2] S I J (q_Pi S (fun r I2 J2 => I = I2 ∧ J = J2 ∧ post r)) := by
  refine CX.of (lo := [(0, .int a0), (1, .int a1), (2, .int a2)]) ok_mX7_isTrue rfl (Nat.le_of_ble_eq_true rfl) rfl ?_
  replace h : ((a0 = 4 → ((¬ a1 = (-1000) → post 0) ∧ (a1 = (-1000) → post 1))) ∧ (a0 = 5 → ((a1 = (-1000) → post 0) ∧ (¬ a1 = (-1000) → post 1))) ∧ (¬ a0 = 4 → ¬ a0 = 5 → ((a1 = (-1000) → post 0) ∧ (¬ a1 = (-1000) → ((a2 = (-1000) → post 0) ∧ (¬ a2 = (-1000) → (wX7_holds a0 a1 a2 I (fun r1 => ((r1 = 0 → post 0) ∧ (¬ r1 = 0 → post 1)))))))))) := h
  refine V_iload_n dX7_isTrue_0 rfl rfl ?_
  by_cases hc0 : a0 = 4
  · replace h := h.1 hc0
    refine V_lookup 28 dX7_isTrue_1 (by decide) (by rw [hc0]; first | done | rfl) rfl ?_
    refine V_iload_n dX7_isTrue_28 rfl rfl ?_
    refine V_sipush (v := (-1000)) dX7_isTrue_29 (by decide) ?_
    refine V_icmp_ne 39 dX7_isTrue_32 rfl (fun hc => ?_) (fun hc => ?_)
    · replace h := h.1 hc
      refine V_iconst (v := 0) dX7_isTrue_39 (by decide) ?_
      exact V_zret dX7_isTrue_40 rfl (by decide) (by decide) (by decide) ⟨_, rfl, rfl, rfl, rfl, h⟩
    · replace h := h.2 hc
      refine V_iconst (v := 1) dX7_isTrue_35 (by decide) ?_
      refine V_goto 40 dX7_isTrue_36 rfl ?_
      exact V_zret dX7_isTrue_40 rfl (by decide) (by decide) (by decide) ⟨_, rfl, rfl, rfl, rfl, h⟩
  by_cases hc1 : a0 = 5
  · replace h := h.2.1 hc1
    refine V_lookup 41 dX7_isTrue_1 (by decide) (by rw [hc1]; first | done | rfl) rfl ?_
    refine V_iload_n dX7_isTrue_41 rfl rfl ?_
    refine V_sipush (v := (-1000)) dX7_isTrue_42 (by decide) ?_
    refine V_icmp_eq 52 dX7_isTrue_45 rfl (fun hc => ?_) (fun hc => ?_)
    · replace h := h.1 hc
      refine V_iconst (v := 0) dX7_isTrue_52 (by decide) ?_
      exact V_zret dX7_isTrue_53 rfl (by decide) (by decide) (by decide) ⟨_, rfl, rfl, rfl, rfl, h⟩
    · replace h := h.2 hc
      refine V_iconst (v := 1) dX7_isTrue_48 (by decide) ?_
      refine V_goto 53 dX7_isTrue_49 rfl ?_
      exact V_zret dX7_isTrue_53 rfl (by decide) (by decide) (by decide) ⟨_, rfl, rfl, rfl, rfl, h⟩
  replace h := h.2.2 hc0 hc1
  have n0 := q_tsw (c := 4) hc0 (by decide) (by decide)
  have n1 := q_tsw (c := 5) hc1 (by decide) (by decide)
  refine V_lookup 54 dX7_isTrue_1 (by decide) (off := 53) (by simp [Op.lookupswitch.offset, n0, Ne.symm n0, n1, Ne.symm n1]) rfl ?_
  refine V_iload_n dX7_isTrue_54 rfl rfl ?_
  refine V_sipush (v := (-1000)) dX7_isTrue_55 (by decide) ?_
  refine V_icmp_eq 81 dX7_isTrue_58 rfl (fun hc => ?_) (fun hc => ?_)
  · replace h := h.1 hc
    refine V_iconst (v := 0) dX7_isTrue_81 (by decide) ?_
    exact V_zret dX7_isTrue_82 rfl (by decide) (by decide) (by decide) ⟨_, rfl, rfl, rfl, rfl, h⟩
  · replace h := h.2 hc
    refine V_iload_n dX7_isTrue_61 rfl rfl ?_
    refine V_sipush (v := (-1000)) dX7_isTrue_62 (by decide) ?_
    refine V_icmp_eq 81 dX7_isTrue_65 rfl (fun hc => ?_) (fun hc => ?_)
    · replace h := h.1 hc
      refine V_iconst (v := 0) dX7_isTrue_81 (by decide) ?_
      exact V_zret dX7_isTrue_82 rfl (by decide) (by decide) (by decide) ⟨_, rfl, rfl, rfl, rfl, h⟩
    · replace h := h.2 hc
      refine V_iload_n dX7_isTrue_68 rfl rfl ?_
      refine V_iload_n dX7_isTrue_69 rfl rfl ?_
      refine V_iload_n dX7_isTrue_70 rfl rfl ?_
      refine V_callSi (st := []) [.int a0, .int a1, .int a2] dX7_isTrue_71 ok_mX7_holds rfl ml_RX7_251 st_mX7_holds (Nat.le_of_ble_eq_true rfl) (by decide) (by decide) (by decide) (s_mX7_holds hS h) (fun r1 I9 J9 h => ?_)
      obtain ⟨rfl, rfl, h⟩ := h
      refine V_if_eq 81 dX7_isTrue_74 rfl (fun hc => ?_) (fun hc => ?_)
      · replace h := h.1 hc
        refine V_iconst (v := 0) dX7_isTrue_81 (by decide) ?_
        exact V_zret dX7_isTrue_82 rfl (by decide) (by decide) (by decide) ⟨_, rfl, rfl, rfl, rfl, h⟩
      · replace h := h.2 hc
        refine V_iconst (v := 1) dX7_isTrue_77 (by decide) ?_
        refine V_goto 82 dX7_isTrue_78 rfl ?_
        exact V_zret dX7_isTrue_82 rfl (by decide) (by decide) (by decide) ⟨_, rfl, rfl, rfl, rfl, h⟩
def wX5_value (t : Nat) (a1 : Int32) (a2 : Int32) (I : QI) (post : Int32 → Prop) : Prop := ((a1 < 0 → post (-1000)) ∧ (¬ a1 < 0 → (((I (3 + 3 * t) 3) ≤ a1 → post (-1000)) ∧ (¬ (I (3 + 3 * t) 3) ≤ a1 → ((a2 < 0 → post (-1000)) ∧ (¬ a2 < 0 → (((I (3 + 3 * t) 2) ≤ a2 → post (-1000)) ∧ (¬ (I (3 + 3 * t) 2) ≤ a2 → (vp_in ((a1 * 3) + a2) 30 ∧ post (I (4 + 3 * t) (((a1 * 3) + a2)).toNatClampNeg))))))))))
set_option maxRecDepth 100000 in
set_option maxHeartbeats 4000000 in
theorem s_mX5_value {X : QX} {S : QS} {t : Nat} {a1 : Int32} {a2 : Int32} {I : QI} {J : QJ} {post : Int32 → Prop} (hS : Sh S) (ht : t < 4) (h : wX5_value t a1 a2 I post) : CX X mX5_value 0 0 0 [.ref (3 + 3 * t), .int a1, .int a2] S I J (q_Pi S (fun r I2 J2 => I = I2 ∧ J = J2 ∧ post r)) := by
  refine CX.of (lo := [(0, .ref (3 + 3 * t)), (1, .int a1), (2, .int a2)]) ok_mX5_value rfl (Nat.le_of_ble_eq_true rfl) rfl ?_
  replace h : ((a1 < 0 → post (-1000)) ∧ (¬ a1 < 0 → (((I (3 + 3 * t) 3) ≤ a1 → post (-1000)) ∧ (¬ (I (3 + 3 * t) 3) ≤ a1 → ((a2 < 0 → post (-1000)) ∧ (¬ a2 < 0 → (((I (3 + 3 * t) 2) ≤ a2 → post (-1000)) ∧ (¬ (I (3 + 3 * t) 2) ≤ a2 → (vp_in ((a1 * 3) + a2) 30 ∧ post (I (4 + 3 * t) (((a1 * 3) + a2)).toNatClampNeg)))))))))) := h
  refine V_iload_n dX5_value_0 rfl rfl ?_
  refine V_if_lt 28 dX5_value_1 rfl (fun hc => ?_) (fun hc => ?_)
  · replace h := h.1 hc
    refine V_iconst (v := 0) dX5_value_28 (by decide) ?_
    refine V_istore_n (lo2 := [(3, .int 0), (0, .ref (3 + 3 * t)), (1, .int a1), (2, .int a2)]) dX5_value_29 rfl (by decide) rfl ?_
    refine V_iload_n dX5_value_30 rfl rfl ?_
    refine V_if_eq 47 dX5_value_31 rfl (fun hc => ?_) (fun hc => ?_)
    · refine V_sipush (v := (-1000)) dX5_value_47 (by decide) ?_
      exact V_iret dX5_value_50 rfl (by decide) (by decide) ⟨_, rfl, rfl, rfl, rfl, h⟩
    · first | exact absurd hc (by decide) | exact absurd (by decide) hc
  · replace h := h.2 hc
    refine V_iload_n dX5_value_4 rfl rfl ?_
    refine V_aload_n dX5_value_5 rfl rfl ?_
    refine V_geti dX5_value_6 fl_RX5_23 (hS.tn ht 3 rfl) (hS.tk ht) rfl ?_
    refine V_icmp_ge 28 dX5_value_9 rfl (fun hc => ?_) (fun hc => ?_)
    · replace h := h.1 hc
      refine V_iconst (v := 0) dX5_value_28 (by decide) ?_
      refine V_istore_n (lo2 := [(3, .int 0), (0, .ref (3 + 3 * t)), (1, .int a1), (2, .int a2)]) dX5_value_29 rfl (by decide) rfl ?_
      refine V_iload_n dX5_value_30 rfl rfl ?_
      refine V_if_eq 47 dX5_value_31 rfl (fun hc => ?_) (fun hc => ?_)
      · refine V_sipush (v := (-1000)) dX5_value_47 (by decide) ?_
        exact V_iret dX5_value_50 rfl (by decide) (by decide) ⟨_, rfl, rfl, rfl, rfl, h⟩
      · first | exact absurd hc (by decide) | exact absurd (by decide) hc
    · replace h := h.2 hc
      refine V_iload_n dX5_value_12 rfl rfl ?_
      refine V_if_lt 28 dX5_value_13 rfl (fun hc => ?_) (fun hc => ?_)
      · replace h := h.1 hc
        refine V_iconst (v := 0) dX5_value_28 (by decide) ?_
        refine V_istore_n (lo2 := [(3, .int 0), (0, .ref (3 + 3 * t)), (1, .int a1), (2, .int a2)]) dX5_value_29 rfl (by decide) rfl ?_
        refine V_iload_n dX5_value_30 rfl rfl ?_
        refine V_if_eq 47 dX5_value_31 rfl (fun hc => ?_) (fun hc => ?_)
        · refine V_sipush (v := (-1000)) dX5_value_47 (by decide) ?_
          exact V_iret dX5_value_50 rfl (by decide) (by decide) ⟨_, rfl, rfl, rfl, rfl, h⟩
        · first | exact absurd hc (by decide) | exact absurd (by decide) hc
      · replace h := h.2 hc
        refine V_iload_n dX5_value_16 rfl rfl ?_
        refine V_aload_n dX5_value_17 rfl rfl ?_
        refine V_geti dX5_value_18 fl_RX5_19 (hS.tn ht 3 rfl) (hS.tk ht) rfl ?_
        refine V_icmp_ge 28 dX5_value_21 rfl (fun hc => ?_) (fun hc => ?_)
        · replace h := h.1 hc
          refine V_iconst (v := 0) dX5_value_28 (by decide) ?_
          refine V_istore_n (lo2 := [(3, .int 0), (0, .ref (3 + 3 * t)), (1, .int a1), (2, .int a2)]) dX5_value_29 rfl (by decide) rfl ?_
          refine V_iload_n dX5_value_30 rfl rfl ?_
          refine V_if_eq 47 dX5_value_31 rfl (fun hc => ?_) (fun hc => ?_)
          · refine V_sipush (v := (-1000)) dX5_value_47 (by decide) ?_
            exact V_iret dX5_value_50 rfl (by decide) (by decide) ⟨_, rfl, rfl, rfl, rfl, h⟩
          · first | exact absurd hc (by decide) | exact absurd (by decide) hc
        · replace h := h.2 hc
          refine V_iconst (v := 1) dX5_value_24 (by decide) ?_
          refine V_goto 29 dX5_value_25 rfl ?_
          refine V_istore_n (lo2 := [(3, .int 1), (0, .ref (3 + 3 * t)), (1, .int a1), (2, .int a2)]) dX5_value_29 rfl (by decide) rfl ?_
          refine V_iload_n dX5_value_30 rfl rfl ?_
          refine V_if_eq 47 dX5_value_31 rfl (fun hc => ?_) (fun hc => ?_)
          · first | exact absurd hc (by decide) | exact absurd (by decide) hc
          · refine V_aload_n dX5_value_34 rfl rfl ?_
            refine V_getr dX5_value_35 fl_RX5_9 (hS.tn ht 3 rfl) (hS.tk ht) rfl (hS.trv ht) ?_
            refine V_iload_n dX5_value_38 rfl rfl ?_
            refine V_iconst (v := 3) dX5_value_39 (by decide) ?_
            refine V_imul dX5_value_40 ?_
            refine V_iload_n dX5_value_41 rfl rfl ?_
            refine V_iadd dX5_value_42 ?_
            obtain ⟨hb, h⟩ := h
            refine V_iald dX5_value_43 (hS.tn ht 4 rfl) (hS.tvk ht) (by rw [(hS.tvz ht)]; exact hb) ?_
            refine V_goto 50 dX5_value_44 rfl ?_
            exact V_iret dX5_value_50 rfl (by decide) (by decide) ⟨_, rfl, rfl, rfl, rfl, h⟩
def wX5_hasColumn (t : Nat) (a1 : Int32) (I : QI) (post : Int32 → Prop) : Prop := ((a1 < 0 → post 0) ∧ (¬ a1 < 0 → (((I (3 + 3 * t) 2) ≤ a1 → post 0) ∧ (¬ (I (3 + 3 * t) 2) ≤ a1 → post 1))))
set_option maxRecDepth 100000 in
set_option maxHeartbeats 4000000 in
theorem s_mX5_hasColumn {X : QX} {S : QS} {t : Nat} {a1 : Int32} {I : QI} {J : QJ} {post : Int32 → Prop} (hS : Sh S) (ht : t < 4) (h : wX5_hasColumn t a1 I post) : CX X mX5_hasColumn 0 0 0 [.ref (3 + 3 * t), .int a1] S I J (q_Pi S (fun r I2 J2 => I = I2 ∧ J = J2 ∧ post r)) := by
  refine CX.of (lo := [(0, .ref (3 + 3 * t)), (1, .int a1)]) ok_mX5_hasColumn rfl (Nat.le_of_ble_eq_true rfl) rfl ?_
  replace h : ((a1 < 0 → post 0) ∧ (¬ a1 < 0 → (((I (3 + 3 * t) 2) ≤ a1 → post 0) ∧ (¬ (I (3 + 3 * t) 2) ≤ a1 → post 1)))) := h
  refine V_iload_n dX5_hasColumn_0 rfl rfl ?_
  refine V_if_lt 16 dX5_hasColumn_1 rfl (fun hc => ?_) (fun hc => ?_)
  · replace h := h.1 hc
    refine V_iconst (v := 0) dX5_hasColumn_16 (by decide) ?_
    exact V_zret dX5_hasColumn_17 rfl (by decide) (by decide) (by decide) ⟨_, rfl, rfl, rfl, rfl, h⟩
  · replace h := h.2 hc
    refine V_iload_n dX5_hasColumn_4 rfl rfl ?_
    refine V_aload_n dX5_hasColumn_5 rfl rfl ?_
    refine V_geti dX5_hasColumn_6 fl_RX5_19 (hS.tn ht 3 rfl) (hS.tk ht) rfl ?_
    refine V_icmp_ge 16 dX5_hasColumn_9 rfl (fun hc => ?_) (fun hc => ?_)
    · replace h := h.1 hc
      refine V_iconst (v := 0) dX5_hasColumn_16 (by decide) ?_
      exact V_zret dX5_hasColumn_17 rfl (by decide) (by decide) (by decide) ⟨_, rfl, rfl, rfl, rfl, h⟩
    · replace h := h.2 hc
      refine V_iconst (v := 1) dX5_hasColumn_12 (by decide) ?_
      refine V_goto 17 dX5_hasColumn_13 rfl ?_
      exact V_zret dX5_hasColumn_17 rfl (by decide) (by decide) (by decide) ⟨_, rfl, rfl, rfl, rfl, h⟩
def wX5_isFirstKnown_10 (t : Nat) (a1 : Int32) (a2 : Int32) (I : QI) (K35 : Int32 → Prop) (post : Int32 → Prop) : Nat → Int32 → Int32 → Prop
  | 0, _, _ => False
  | n + 1, x3, x4 => ((a1 ≤ x4 → (K35 x3)) ∧ (¬ a1 ≤ x4 → (wX5_value t x4 a2 I (fun r2 => ((¬ r2 = x3 → (∀ v3 : Int32, v3 = (x4 + 1) → (wX5_isFirstKnown_10 t a1 a2 I K35 post n x3 v3))) ∧ (r2 = x3 → post 0))))))
set_option maxRecDepth 100000 in
set_option maxHeartbeats 4000000 in
theorem swX5_isFirstKnown_10 {X : QX} {S : QS} {t : Nat} {a1 : Int32} {a2 : Int32} {I : QI} {J : QJ} {K35 : Int32 → Prop} {post : Int32 → Prop} (hS : Sh S) (ht : t < 4) (hK35 : ∀ (z3 : Int32), K35 z3 → V X mX5_isFirstKnown 1 0 0 (q_Pi S (fun r I2 J2 => I = I2 ∧ J = J2 ∧ post r)) 35 [(3, .int z3)] [] S I J 0 0) : ∀ (f : Nat) (x3 : Int32) (x4 : Int32), wX5_isFirstKnown_10 t a1 a2 I K35 post f x3 x4 → V X mX5_isFirstKnown 1 0 0 (q_Pi S (fun r I2 J2 => I = I2 ∧ J = J2 ∧ post r)) 10 [(0, .ref (3 + 3 * t)), (1, .int a1), (2, .int a2), (3, .int x3), (4, .int x4)] [] S I J 0 0 := by
  intro f
  induction f with
  | zero => intro x3 x4 h; exact h.elim
  | succ n ih =>
    intro x3 x4 h
    replace h : ((a1 ≤ x4 → (K35 x3)) ∧ (¬ a1 ≤ x4 → (wX5_value t x4 a2 I (fun r2 => ((¬ r2 = x3 → (∀ v3 : Int32, v3 = (x4 + 1) → (wX5_isFirstKnown_10 t a1 a2 I K35 post n x3 v3))) ∧ (r2 = x3 → post 0)))))) := h
    refine V_iload dX5_isFirstKnown_10 rfl ?_
    refine V_iload_n dX5_isFirstKnown_12 rfl rfl ?_
    refine V_icmp_ge 35 dX5_isFirstKnown_13 rfl (fun hc => ?_) (fun hc => ?_)
    · replace h := h.1 hc
      refine V_sub (lo2 := [(3, .int x3)]) [3] rfl ?_
      exact hK35 _ h
    · replace h := h.2 hc
      refine V_aload_n dX5_isFirstKnown_16 rfl rfl ?_
      refine V_iload dX5_isFirstKnown_17 rfl ?_
      refine V_iload_n dX5_isFirstKnown_19 rfl rfl ?_
      refine V_callVi (st := []) [.int x4, .int a2] dX5_isFirstKnown_20 ok_mX5_value rfl ml_RX5_34 in_mX5_value se_mX5_value (hS.tn ht 3 rfl) (hS.tk ht) (by decide) rfl (Nat.le_of_ble_eq_true rfl) (by decide) (by decide) (by decide) (s_mX5_value hS ht h) (fun r2 I9 J9 h => ?_)
      obtain ⟨rfl, rfl, h⟩ := h
      refine V_iload_n dX5_isFirstKnown_23 rfl rfl ?_
      refine V_icmp_ne 29 dX5_isFirstKnown_24 rfl (fun hc => ?_) (fun hc => ?_)
      · replace h := h.1 hc
        obtain ⟨v3, e_v3⟩ : ∃ z : Int32, z = (x4 + 1) := ⟨_, rfl⟩
        replace h := h v3 e_v3
        refine V_iinc (lo2 := [(4, .int v3), (0, .ref (3 + 3 * t)), (1, .int a1), (2, .int a2), (3, .int x3)]) 4 dX5_isFirstKnown_29 rfl (v := v3) (by rw [e_v3]; first | done | rfl) (by decide) rfl ?_
        refine V_goto 10 dX5_isFirstKnown_32 rfl ?_
        refine V_sub (lo2 := [(0, .ref (3 + 3 * t)), (1, .int a1), (2, .int a2), (3, .int x3), (4, .int v3)]) [1, 2, 3, 4, 0] rfl ?_
        exact ih _ _ h
      · replace h := h.2 hc
        refine V_iconst (v := 0) dX5_isFirstKnown_27 (by decide) ?_
        exact V_zret dX5_isFirstKnown_28 rfl (by decide) (by decide) (by decide) ⟨_, rfl, rfl, rfl, rfl, h⟩
def wX5_isFirstKnown (t : Nat) (a1 : Int32) (a2 : Int32) (I : QI) (post : Int32 → Prop) : Prop := (wX5_value t a1 a2 I (fun r1 => (∃ f : Nat, wX5_isFirstKnown_10 t a1 a2 I (fun u4 => ((u4 = (-1000) → post 0) ∧ (¬ u4 = (-1000) → post 1))) post f r1 0)))
set_option maxRecDepth 100000 in
set_option maxHeartbeats 4000000 in
theorem s_mX5_isFirstKnown {X : QX} {S : QS} {t : Nat} {a1 : Int32} {a2 : Int32} {I : QI} {J : QJ} {post : Int32 → Prop} (hS : Sh S) (ht : t < 4) (h : wX5_isFirstKnown t a1 a2 I post) : CX X mX5_isFirstKnown 1 0 0 [.ref (3 + 3 * t), .int a1, .int a2] S I J (q_Pi S (fun r I2 J2 => I = I2 ∧ J = J2 ∧ post r)) := by
  refine CX.of (lo := [(0, .ref (3 + 3 * t)), (1, .int a1), (2, .int a2)]) ok_mX5_isFirstKnown rfl (Nat.le_of_ble_eq_true rfl) rfl ?_
  replace h : (wX5_value t a1 a2 I (fun r1 => (∃ f : Nat, wX5_isFirstKnown_10 t a1 a2 I (fun u4 => ((u4 = (-1000) → post 0) ∧ (¬ u4 = (-1000) → post 1))) post f r1 0))) := h
  refine V_aload_n dX5_isFirstKnown_0 rfl rfl ?_
  refine V_iload_n dX5_isFirstKnown_1 rfl rfl ?_
  refine V_iload_n dX5_isFirstKnown_2 rfl rfl ?_
  refine V_callVi (st := []) [.int a1, .int a2] dX5_isFirstKnown_3 ok_mX5_value rfl ml_RX5_34 in_mX5_value se_mX5_value (hS.tn ht 3 rfl) (hS.tk ht) (by decide) rfl (Nat.le_of_ble_eq_true rfl) (by decide) (by decide) (by decide) (s_mX5_value hS ht h) (fun r1 I9 J9 h => ?_)
  obtain ⟨rfl, rfl, h⟩ := h
  refine V_istore_n (lo2 := [(3, .int r1), (0, .ref (3 + 3 * t)), (1, .int a1), (2, .int a2)]) dX5_isFirstKnown_6 rfl (by decide) rfl ?_
  refine V_iconst (v := 0) dX5_isFirstKnown_7 (by decide) ?_
  refine V_istore (lo2 := [(4, .int 0), (3, .int r1), (0, .ref (3 + 3 * t)), (1, .int a1), (2, .int a2)]) dX5_isFirstKnown_8 (by decide) rfl ?_
  refine V_sub (lo2 := [(0, .ref (3 + 3 * t)), (1, .int a1), (2, .int a2), (3, .int r1), (4, .int 0)]) [2, 3, 4, 1, 0] rfl ?_
  obtain ⟨f9, h⟩ := h
  refine swX5_isFirstKnown_10 hS ht ?_ f9 _ _ h
  · intro u4 h
    refine V_iload_n dX5_isFirstKnown_35 rfl rfl ?_
    refine V_sipush (v := (-1000)) dX5_isFirstKnown_36 (by decide) ?_
    refine V_icmp_eq 46 dX5_isFirstKnown_39 rfl (fun hc => ?_) (fun hc => ?_)
    · replace h := h.1 hc
      refine V_iconst (v := 0) dX5_isFirstKnown_46 (by decide) ?_
      exact V_zret dX5_isFirstKnown_47 rfl (by decide) (by decide) (by decide) ⟨_, rfl, rfl, rfl, rfl, h⟩
    · replace h := h.2 hc
      refine V_iconst (v := 1) dX5_isFirstKnown_42 (by decide) ?_
      refine V_goto 47 dX5_isFirstKnown_43 rfl ?_
      exact V_zret dX5_isFirstKnown_47 rfl (by decide) (by decide) (by decide) ⟨_, rfl, rfl, rfl, rfl, h⟩
def wX5_countKnownValues_4 (t : Nat) (a1 : Int32) (I : QI) (post : Int32 → Prop) : Nat → Int32 → Int32 → Prop
  | 0, _, _ => False
  | n + 1, x2, x3 => (((I (3 + 3 * t) 3) ≤ x3 → post x2) ∧ (¬ (I (3 + 3 * t) 3) ≤ x3 → (wX5_isFirstKnown t x3 a1 I (fun r1 => ((r1 = 0 → (∀ v2 : Int32, v2 = (x3 + 1) → (wX5_countKnownValues_4 t a1 I post n x2 v2))) ∧ (¬ r1 = 0 → (∀ v3 : Int32, v3 = (x2 + 1) → (∀ v4 : Int32, v4 = (x3 + 1) → (wX5_countKnownValues_4 t a1 I post n v3 v4)))))))))
set_option maxRecDepth 100000 in
set_option maxHeartbeats 4000000 in
theorem swX5_countKnownValues_4 {X : QX} {S : QS} {t : Nat} {a1 : Int32} {I : QI} {J : QJ} {post : Int32 → Prop} (hS : Sh S) (ht : t < 4) : ∀ (f : Nat) (x2 : Int32) (x3 : Int32), wX5_countKnownValues_4 t a1 I post f x2 x3 → V X mX5_countKnownValues 2 0 0 (q_Pi S (fun r I2 J2 => I = I2 ∧ J = J2 ∧ post r)) 4 [(0, .ref (3 + 3 * t)), (1, .int a1), (2, .int x2), (3, .int x3)] [] S I J 0 0 := by
  intro f
  induction f with
  | zero => intro x2 x3 h; exact h.elim
  | succ n ih =>
    intro x2 x3 h
    replace h : (((I (3 + 3 * t) 3) ≤ x3 → post x2) ∧ (¬ (I (3 + 3 * t) 3) ≤ x3 → (wX5_isFirstKnown t x3 a1 I (fun r1 => ((r1 = 0 → (∀ v2 : Int32, v2 = (x3 + 1) → (wX5_countKnownValues_4 t a1 I post n x2 v2))) ∧ (¬ r1 = 0 → (∀ v3 : Int32, v3 = (x2 + 1) → (∀ v4 : Int32, v4 = (x3 + 1) → (wX5_countKnownValues_4 t a1 I post n v3 v4))))))))) := h
    refine V_iload_n dX5_countKnownValues_4 rfl rfl ?_
    refine V_aload_n dX5_countKnownValues_5 rfl rfl ?_
    refine V_geti dX5_countKnownValues_6 fl_RX5_23 (hS.tn ht 3 rfl) (hS.tk ht) rfl ?_
    refine V_icmp_ge 30 dX5_countKnownValues_9 rfl (fun hc => ?_) (fun hc => ?_)
    · replace h := h.1 hc
      refine V_iload_n dX5_countKnownValues_30 rfl rfl ?_
      exact V_iret dX5_countKnownValues_31 rfl (by decide) (by decide) ⟨_, rfl, rfl, rfl, rfl, h⟩
    · replace h := h.2 hc
      refine V_aload_n dX5_countKnownValues_12 rfl rfl ?_
      refine V_iload_n dX5_countKnownValues_13 rfl rfl ?_
      refine V_iload_n dX5_countKnownValues_14 rfl rfl ?_
      refine V_callVi (st := []) [.int x3, .int a1] dX5_countKnownValues_15 ok_mX5_isFirstKnown rfl ml_RX5_41 in_mX5_isFirstKnown se_mX5_isFirstKnown (hS.tn ht 3 rfl) (hS.tk ht) (by decide) rfl (Nat.le_of_ble_eq_true rfl) (by decide) (by decide) (by decide) (s_mX5_isFirstKnown hS ht h) (fun r1 I9 J9 h => ?_)
      obtain ⟨rfl, rfl, h⟩ := h
      refine V_if_eq 24 dX5_countKnownValues_18 rfl (fun hc => ?_) (fun hc => ?_)
      · replace h := h.1 hc
        obtain ⟨v2, e_v2⟩ : ∃ z : Int32, z = (x3 + 1) := ⟨_, rfl⟩
        replace h := h v2 e_v2
        refine V_iinc (lo2 := [(3, .int v2), (0, .ref (3 + 3 * t)), (1, .int a1), (2, .int x2)]) 3 dX5_countKnownValues_24 rfl (v := v2) (by rw [e_v2]; first | done | rfl) (by decide) rfl ?_
        refine V_goto 4 dX5_countKnownValues_27 rfl ?_
        refine V_sub (lo2 := [(0, .ref (3 + 3 * t)), (1, .int a1), (2, .int x2), (3, .int v2)]) [1, 2, 3, 0] rfl ?_
        exact ih _ _ h
      · replace h := h.2 hc
        obtain ⟨v3, e_v3⟩ : ∃ z : Int32, z = (x2 + 1) := ⟨_, rfl⟩
        replace h := h v3 e_v3
        refine V_iinc (lo2 := [(2, .int v3), (0, .ref (3 + 3 * t)), (1, .int a1), (3, .int x3)]) 2 dX5_countKnownValues_21 rfl (v := v3) (by rw [e_v3]; first | done | rfl) (by decide) rfl ?_
        obtain ⟨v4, e_v4⟩ : ∃ z : Int32, z = (x3 + 1) := ⟨_, rfl⟩
        replace h := h v4 e_v4
        refine V_iinc (lo2 := [(3, .int v4), (2, .int v3), (0, .ref (3 + 3 * t)), (1, .int a1)]) 3 dX5_countKnownValues_24 rfl (v := v4) (by rw [e_v4]; first | done | rfl) (by decide) rfl ?_
        refine V_goto 4 dX5_countKnownValues_27 rfl ?_
        refine V_sub (lo2 := [(0, .ref (3 + 3 * t)), (1, .int a1), (2, .int v3), (3, .int v4)]) [2, 3, 1, 0] rfl ?_
        exact ih _ _ h
def wX5_countKnownValues (t : Nat) (a1 : Int32) (I : QI) (post : Int32 → Prop) : Prop := (∃ f : Nat, wX5_countKnownValues_4 t a1 I post f 0 0)
set_option maxRecDepth 100000 in
set_option maxHeartbeats 4000000 in
theorem s_mX5_countKnownValues {X : QX} {S : QS} {t : Nat} {a1 : Int32} {I : QI} {J : QJ} {post : Int32 → Prop} (hS : Sh S) (ht : t < 4) (h : wX5_countKnownValues t a1 I post) : CX X mX5_countKnownValues 2 0 0 [.ref (3 + 3 * t), .int a1] S I J (q_Pi S (fun r I2 J2 => I = I2 ∧ J = J2 ∧ post r)) := by
  refine CX.of (lo := [(0, .ref (3 + 3 * t)), (1, .int a1)]) ok_mX5_countKnownValues rfl (Nat.le_of_ble_eq_true rfl) rfl ?_
  replace h : (∃ f : Nat, wX5_countKnownValues_4 t a1 I post f 0 0) := h
  refine V_iconst (v := 0) dX5_countKnownValues_0 (by decide) ?_
  refine V_istore_n (lo2 := [(2, .int 0), (0, .ref (3 + 3 * t)), (1, .int a1)]) dX5_countKnownValues_1 rfl (by decide) rfl ?_
  refine V_iconst (v := 0) dX5_countKnownValues_2 (by decide) ?_
  refine V_istore_n (lo2 := [(3, .int 0), (2, .int 0), (0, .ref (3 + 3 * t)), (1, .int a1)]) dX5_countKnownValues_3 rfl (by decide) rfl ?_
  refine V_sub (lo2 := [(0, .ref (3 + 3 * t)), (1, .int a1), (2, .int 0), (3, .int 0)]) [2, 3, 1, 0] rfl ?_
  obtain ⟨f9, h⟩ := h
  refine swX5_countKnownValues_4 hS ht f9 _ _ h
def wX5_areAlike_2 (t : Nat) (a1 : Int32) (a2 : Int32) (I : QI) (post : Int32 → Prop) : Nat → Int32 → Prop
  | 0, _ => False
  | n + 1, x3 => (((I (3 + 3 * t) 2) ≤ x3 → post 1) ∧ (¬ (I (3 + 3 * t) 2) ≤ x3 → (wX5_value t a1 x3 I (fun r1 => (wX5_value t a2 x3 I (fun r2 => ((r1 = r2 → (∀ v3 : Int32, v3 = (x3 + 1) → (wX5_areAlike_2 t a1 a2 I post n v3))) ∧ (¬ r1 = r2 → post 0))))))))
set_option maxRecDepth 100000 in
set_option maxHeartbeats 4000000 in
theorem swX5_areAlike_2 {X : QX} {S : QS} {t : Nat} {a1 : Int32} {a2 : Int32} {I : QI} {J : QJ} {post : Int32 → Prop} (hS : Sh S) (ht : t < 4) : ∀ (f : Nat) (x3 : Int32), wX5_areAlike_2 t a1 a2 I post f x3 → V X mX5_areAlike 1 0 0 (q_Pi S (fun r I2 J2 => I = I2 ∧ J = J2 ∧ post r)) 2 [(0, .ref (3 + 3 * t)), (1, .int a1), (2, .int a2), (3, .int x3)] [] S I J 0 0 := by
  intro f
  induction f with
  | zero => intro x3 h; exact h.elim
  | succ n ih =>
    intro x3 h
    replace h : (((I (3 + 3 * t) 2) ≤ x3 → post 1) ∧ (¬ (I (3 + 3 * t) 2) ≤ x3 → (wX5_value t a1 x3 I (fun r1 => (wX5_value t a2 x3 I (fun r2 => ((r1 = r2 → (∀ v3 : Int32, v3 = (x3 + 1) → (wX5_areAlike_2 t a1 a2 I post n v3))) ∧ (¬ r1 = r2 → post 0)))))))) := h
    refine V_iload_n dX5_areAlike_2 rfl rfl ?_
    refine V_aload_n dX5_areAlike_3 rfl rfl ?_
    refine V_geti dX5_areAlike_4 fl_RX5_19 (hS.tn ht 3 rfl) (hS.tk ht) rfl ?_
    refine V_icmp_ge 33 dX5_areAlike_7 rfl (fun hc => ?_) (fun hc => ?_)
    · replace h := h.1 hc
      refine V_iconst (v := 1) dX5_areAlike_33 (by decide) ?_
      exact V_zret dX5_areAlike_34 rfl (by decide) (by decide) (by decide) ⟨_, rfl, rfl, rfl, rfl, h⟩
    · replace h := h.2 hc
      refine V_aload_n dX5_areAlike_10 rfl rfl ?_
      refine V_iload_n dX5_areAlike_11 rfl rfl ?_
      refine V_iload_n dX5_areAlike_12 rfl rfl ?_
      refine V_callVi (st := []) [.int a1, .int x3] dX5_areAlike_13 ok_mX5_value rfl ml_RX5_34 in_mX5_value se_mX5_value (hS.tn ht 3 rfl) (hS.tk ht) (by decide) rfl (Nat.le_of_ble_eq_true rfl) (by decide) (by decide) (by decide) (s_mX5_value hS ht h) (fun r1 I9 J9 h => ?_)
      obtain ⟨rfl, rfl, h⟩ := h
      refine V_aload_n dX5_areAlike_16 rfl rfl ?_
      refine V_iload_n dX5_areAlike_17 rfl rfl ?_
      refine V_iload_n dX5_areAlike_18 rfl rfl ?_
      refine V_callVi (st := [.int r1]) [.int a2, .int x3] dX5_areAlike_19 ok_mX5_value rfl ml_RX5_34 in_mX5_value se_mX5_value (hS.tn ht 3 rfl) (hS.tk ht) (by decide) rfl (Nat.le_of_ble_eq_true rfl) (by decide) (by decide) (by decide) (s_mX5_value hS ht h) (fun r2 I9 J9 h => ?_)
      obtain ⟨rfl, rfl, h⟩ := h
      refine V_icmp_eq 27 dX5_areAlike_22 rfl (fun hc => ?_) (fun hc => ?_)
      · replace h := h.1 hc
        obtain ⟨v3, e_v3⟩ : ∃ z : Int32, z = (x3 + 1) := ⟨_, rfl⟩
        replace h := h v3 e_v3
        refine V_iinc (lo2 := [(3, .int v3), (0, .ref (3 + 3 * t)), (1, .int a1), (2, .int a2)]) 3 dX5_areAlike_27 rfl (v := v3) (by rw [e_v3]; first | done | rfl) (by decide) rfl ?_
        refine V_goto 2 dX5_areAlike_30 rfl ?_
        refine V_sub (lo2 := [(0, .ref (3 + 3 * t)), (1, .int a1), (2, .int a2), (3, .int v3)]) [1, 2, 3, 0] rfl ?_
        exact ih _ h
      · replace h := h.2 hc
        refine V_iconst (v := 0) dX5_areAlike_25 (by decide) ?_
        exact V_zret dX5_areAlike_26 rfl (by decide) (by decide) (by decide) ⟨_, rfl, rfl, rfl, rfl, h⟩
def wX5_areAlike (t : Nat) (a1 : Int32) (a2 : Int32) (I : QI) (post : Int32 → Prop) : Prop := (∃ f : Nat, wX5_areAlike_2 t a1 a2 I post f 0)
set_option maxRecDepth 100000 in
set_option maxHeartbeats 4000000 in
theorem s_mX5_areAlike {X : QX} {S : QS} {t : Nat} {a1 : Int32} {a2 : Int32} {I : QI} {J : QJ} {post : Int32 → Prop} (hS : Sh S) (ht : t < 4) (h : wX5_areAlike t a1 a2 I post) : CX X mX5_areAlike 1 0 0 [.ref (3 + 3 * t), .int a1, .int a2] S I J (q_Pi S (fun r I2 J2 => I = I2 ∧ J = J2 ∧ post r)) := by
  refine CX.of (lo := [(0, .ref (3 + 3 * t)), (1, .int a1), (2, .int a2)]) ok_mX5_areAlike rfl (Nat.le_of_ble_eq_true rfl) rfl ?_
  replace h : (∃ f : Nat, wX5_areAlike_2 t a1 a2 I post f 0) := h
  refine V_iconst (v := 0) dX5_areAlike_0 (by decide) ?_
  refine V_istore_n (lo2 := [(3, .int 0), (0, .ref (3 + 3 * t)), (1, .int a1), (2, .int a2)]) dX5_areAlike_1 rfl (by decide) rfl ?_
  refine V_sub (lo2 := [(0, .ref (3 + 3 * t)), (1, .int a1), (2, .int a2), (3, .int 0)]) [1, 2, 3, 0] rfl ?_
  obtain ⟨f9, h⟩ := h
  refine swX5_areAlike_2 hS ht f9 _ h
def wX5_isFirstAlike_2 (t : Nat) (a1 : Int32) (I : QI) (post : Int32 → Prop) : Nat → Int32 → Prop
  | 0, _ => False
  | n + 1, x2 => ((a1 ≤ x2 → post 1) ∧ (¬ a1 ≤ x2 → (wX5_areAlike t a1 x2 I (fun r1 => ((r1 = 0 → (∀ v2 : Int32, v2 = (x2 + 1) → (wX5_isFirstAlike_2 t a1 I post n v2))) ∧ (¬ r1 = 0 → post 0))))))
set_option maxRecDepth 100000 in
set_option maxHeartbeats 4000000 in
theorem swX5_isFirstAlike_2 {X : QX} {S : QS} {t : Nat} {a1 : Int32} {I : QI} {J : QJ} {post : Int32 → Prop} (hS : Sh S) (ht : t < 4) : ∀ (f : Nat) (x2 : Int32), wX5_isFirstAlike_2 t a1 I post f x2 → V X mX5_isFirstAlike 2 0 0 (q_Pi S (fun r I2 J2 => I = I2 ∧ J = J2 ∧ post r)) 2 [(0, .ref (3 + 3 * t)), (1, .int a1), (2, .int x2)] [] S I J 0 0 := by
  intro f
  induction f with
  | zero => intro x2 h; exact h.elim
  | succ n ih =>
    intro x2 h
    replace h : ((a1 ≤ x2 → post 1) ∧ (¬ a1 ≤ x2 → (wX5_areAlike t a1 x2 I (fun r1 => ((r1 = 0 → (∀ v2 : Int32, v2 = (x2 + 1) → (wX5_isFirstAlike_2 t a1 I post n v2))) ∧ (¬ r1 = 0 → post 0)))))) := h
    refine V_iload_n dX5_isFirstAlike_2 rfl rfl ?_
    refine V_iload_n dX5_isFirstAlike_3 rfl rfl ?_
    refine V_icmp_ge 24 dX5_isFirstAlike_4 rfl (fun hc => ?_) (fun hc => ?_)
    · replace h := h.1 hc
      refine V_iconst (v := 1) dX5_isFirstAlike_24 (by decide) ?_
      exact V_zret dX5_isFirstAlike_25 rfl (by decide) (by decide) (by decide) ⟨_, rfl, rfl, rfl, rfl, h⟩
    · replace h := h.2 hc
      refine V_aload_n dX5_isFirstAlike_7 rfl rfl ?_
      refine V_iload_n dX5_isFirstAlike_8 rfl rfl ?_
      refine V_iload_n dX5_isFirstAlike_9 rfl rfl ?_
      refine V_callVi (st := []) [.int a1, .int x2] dX5_isFirstAlike_10 ok_mX5_areAlike rfl ml_RX5_38 in_mX5_areAlike se_mX5_areAlike (hS.tn ht 3 rfl) (hS.tk ht) (by decide) rfl (Nat.le_of_ble_eq_true rfl) (by decide) (by decide) (by decide) (s_mX5_areAlike hS ht h) (fun r1 I9 J9 h => ?_)
      obtain ⟨rfl, rfl, h⟩ := h
      refine V_if_eq 18 dX5_isFirstAlike_13 rfl (fun hc => ?_) (fun hc => ?_)
      · replace h := h.1 hc
        obtain ⟨v2, e_v2⟩ : ∃ z : Int32, z = (x2 + 1) := ⟨_, rfl⟩
        replace h := h v2 e_v2
        refine V_iinc (lo2 := [(2, .int v2), (0, .ref (3 + 3 * t)), (1, .int a1)]) 2 dX5_isFirstAlike_18 rfl (v := v2) (by rw [e_v2]; first | done | rfl) (by decide) rfl ?_
        refine V_goto 2 dX5_isFirstAlike_21 rfl ?_
        refine V_sub (lo2 := [(0, .ref (3 + 3 * t)), (1, .int a1), (2, .int v2)]) [1, 2, 0] rfl ?_
        exact ih _ h
      · replace h := h.2 hc
        refine V_iconst (v := 0) dX5_isFirstAlike_16 (by decide) ?_
        exact V_zret dX5_isFirstAlike_17 rfl (by decide) (by decide) (by decide) ⟨_, rfl, rfl, rfl, rfl, h⟩
def wX5_isFirstAlike (t : Nat) (a1 : Int32) (I : QI) (post : Int32 → Prop) : Prop := (∃ f : Nat, wX5_isFirstAlike_2 t a1 I post f 0)
set_option maxRecDepth 100000 in
set_option maxHeartbeats 4000000 in
theorem s_mX5_isFirstAlike {X : QX} {S : QS} {t : Nat} {a1 : Int32} {I : QI} {J : QJ} {post : Int32 → Prop} (hS : Sh S) (ht : t < 4) (h : wX5_isFirstAlike t a1 I post) : CX X mX5_isFirstAlike 2 0 0 [.ref (3 + 3 * t), .int a1] S I J (q_Pi S (fun r I2 J2 => I = I2 ∧ J = J2 ∧ post r)) := by
  refine CX.of (lo := [(0, .ref (3 + 3 * t)), (1, .int a1)]) ok_mX5_isFirstAlike rfl (Nat.le_of_ble_eq_true rfl) rfl ?_
  replace h : (∃ f : Nat, wX5_isFirstAlike_2 t a1 I post f 0) := h
  refine V_iconst (v := 0) dX5_isFirstAlike_0 (by decide) ?_
  refine V_istore_n (lo2 := [(2, .int 0), (0, .ref (3 + 3 * t)), (1, .int a1)]) dX5_isFirstAlike_1 rfl (by decide) rfl ?_
  refine V_sub (lo2 := [(0, .ref (3 + 3 * t)), (1, .int a1), (2, .int 0)]) [1, 2, 0] rfl ?_
  obtain ⟨f9, h⟩ := h
  refine swX5_isFirstAlike_2 hS ht f9 _ h
def wX7_areEqual (a0 : Int32) (a1 : Int32) (I : QI) (post : Int32 → Prop) : Prop := ((a0 = (-1000) → post 0) ∧ (¬ a0 = (-1000) → ((¬ a0 = a1 → post 0) ∧ (a0 = a1 → post 1))))
set_option maxRecDepth 100000 in
set_option maxHeartbeats 4000000 in
theorem s_mX7_areEqual {X : QX} {S : QS} {a0 : Int32} {a1 : Int32} {I : QI} {J : QJ} {post : Int32 → Prop} (hS : Sh S) (h : wX7_areEqual a0 a1 I post) : CX X mX7_areEqual 0 0 0 [.int a0, .int a1] S I J (q_Pi S (fun r I2 J2 => I = I2 ∧ J = J2 ∧ post r)) := by
  refine CX.of (lo := [(0, .int a0), (1, .int a1)]) ok_mX7_areEqual rfl (Nat.le_of_ble_eq_true rfl) rfl ?_
  replace h : ((a0 = (-1000) → post 0) ∧ (¬ a0 = (-1000) → ((¬ a0 = a1 → post 0) ∧ (a0 = a1 → post 1)))) := h
  refine V_iload_n dX7_areEqual_0 rfl rfl ?_
  refine V_sipush (v := (-1000)) dX7_areEqual_1 (by decide) ?_
  refine V_icmp_eq 16 dX7_areEqual_4 rfl (fun hc => ?_) (fun hc => ?_)
  · replace h := h.1 hc
    refine V_iconst (v := 0) dX7_areEqual_16 (by decide) ?_
    exact V_zret dX7_areEqual_17 rfl (by decide) (by decide) (by decide) ⟨_, rfl, rfl, rfl, rfl, h⟩
  · replace h := h.2 hc
    refine V_iload_n dX7_areEqual_7 rfl rfl ?_
    refine V_iload_n dX7_areEqual_8 rfl rfl ?_
    refine V_icmp_ne 16 dX7_areEqual_9 rfl (fun hc => ?_) (fun hc => ?_)
    · replace h := h.1 hc
      refine V_iconst (v := 0) dX7_areEqual_16 (by decide) ?_
      exact V_zret dX7_areEqual_17 rfl (by decide) (by decide) (by decide) ⟨_, rfl, rfl, rfl, rfl, h⟩
    · replace h := h.2 hc
      refine V_iconst (v := 1) dX7_areEqual_12 (by decide) ?_
      refine V_goto 17 dX7_areEqual_13 rfl ?_
      exact V_zret dX7_areEqual_17 rfl (by decide) (by decide) (by decide) ⟨_, rfl, rfl, rfl, rfl, h⟩
def wX5_countAlike_4 (t : Nat) (a1 : Int32) (I : QI) (post : Int32 → Prop) : Nat → Int32 → Int32 → Prop
  | 0, _, _ => False
  | n + 1, x2, x3 => (((I (3 + 3 * t) 3) ≤ x3 → post x2) ∧ (¬ (I (3 + 3 * t) 3) ≤ x3 → (wX5_areAlike t a1 x3 I (fun r1 => ((r1 = 0 → (∀ v2 : Int32, v2 = (x3 + 1) → (wX5_countAlike_4 t a1 I post n x2 v2))) ∧ (¬ r1 = 0 → (∀ v3 : Int32, v3 = (x2 + 1) → (∀ v4 : Int32, v4 = (x3 + 1) → (wX5_countAlike_4 t a1 I post n v3 v4)))))))))
set_option maxRecDepth 100000 in
set_option maxHeartbeats 4000000 in
theorem swX5_countAlike_4 {X : QX} {S : QS} {t : Nat} {a1 : Int32} {I : QI} {J : QJ} {post : Int32 → Prop} (hS : Sh S) (ht : t < 4) : ∀ (f : Nat) (x2 : Int32) (x3 : Int32), wX5_countAlike_4 t a1 I post f x2 x3 → V X mX5_countAlike 2 0 0 (q_Pi S (fun r I2 J2 => I = I2 ∧ J = J2 ∧ post r)) 4 [(0, .ref (3 + 3 * t)), (1, .int a1), (2, .int x2), (3, .int x3)] [] S I J 0 0 := by
  intro f
  induction f with
  | zero => intro x2 x3 h; exact h.elim
  | succ n ih =>
    intro x2 x3 h
    replace h : (((I (3 + 3 * t) 3) ≤ x3 → post x2) ∧ (¬ (I (3 + 3 * t) 3) ≤ x3 → (wX5_areAlike t a1 x3 I (fun r1 => ((r1 = 0 → (∀ v2 : Int32, v2 = (x3 + 1) → (wX5_countAlike_4 t a1 I post n x2 v2))) ∧ (¬ r1 = 0 → (∀ v3 : Int32, v3 = (x2 + 1) → (∀ v4 : Int32, v4 = (x3 + 1) → (wX5_countAlike_4 t a1 I post n v3 v4))))))))) := h
    refine V_iload_n dX5_countAlike_4 rfl rfl ?_
    refine V_aload_n dX5_countAlike_5 rfl rfl ?_
    refine V_geti dX5_countAlike_6 fl_RX5_23 (hS.tn ht 3 rfl) (hS.tk ht) rfl ?_
    refine V_icmp_ge 30 dX5_countAlike_9 rfl (fun hc => ?_) (fun hc => ?_)
    · replace h := h.1 hc
      refine V_iload_n dX5_countAlike_30 rfl rfl ?_
      exact V_iret dX5_countAlike_31 rfl (by decide) (by decide) ⟨_, rfl, rfl, rfl, rfl, h⟩
    · replace h := h.2 hc
      refine V_aload_n dX5_countAlike_12 rfl rfl ?_
      refine V_iload_n dX5_countAlike_13 rfl rfl ?_
      refine V_iload_n dX5_countAlike_14 rfl rfl ?_
      refine V_callVi (st := []) [.int a1, .int x3] dX5_countAlike_15 ok_mX5_areAlike rfl ml_RX5_38 in_mX5_areAlike se_mX5_areAlike (hS.tn ht 3 rfl) (hS.tk ht) (by decide) rfl (Nat.le_of_ble_eq_true rfl) (by decide) (by decide) (by decide) (s_mX5_areAlike hS ht h) (fun r1 I9 J9 h => ?_)
      obtain ⟨rfl, rfl, h⟩ := h
      refine V_if_eq 24 dX5_countAlike_18 rfl (fun hc => ?_) (fun hc => ?_)
      · replace h := h.1 hc
        obtain ⟨v2, e_v2⟩ : ∃ z : Int32, z = (x3 + 1) := ⟨_, rfl⟩
        replace h := h v2 e_v2
        refine V_iinc (lo2 := [(3, .int v2), (0, .ref (3 + 3 * t)), (1, .int a1), (2, .int x2)]) 3 dX5_countAlike_24 rfl (v := v2) (by rw [e_v2]; first | done | rfl) (by decide) rfl ?_
        refine V_goto 4 dX5_countAlike_27 rfl ?_
        refine V_sub (lo2 := [(0, .ref (3 + 3 * t)), (1, .int a1), (2, .int x2), (3, .int v2)]) [1, 2, 3, 0] rfl ?_
        exact ih _ _ h
      · replace h := h.2 hc
        obtain ⟨v3, e_v3⟩ : ∃ z : Int32, z = (x2 + 1) := ⟨_, rfl⟩
        replace h := h v3 e_v3
        refine V_iinc (lo2 := [(2, .int v3), (0, .ref (3 + 3 * t)), (1, .int a1), (3, .int x3)]) 2 dX5_countAlike_21 rfl (v := v3) (by rw [e_v3]; first | done | rfl) (by decide) rfl ?_
        obtain ⟨v4, e_v4⟩ : ∃ z : Int32, z = (x3 + 1) := ⟨_, rfl⟩
        replace h := h v4 e_v4
        refine V_iinc (lo2 := [(3, .int v4), (2, .int v3), (0, .ref (3 + 3 * t)), (1, .int a1)]) 3 dX5_countAlike_24 rfl (v := v4) (by rw [e_v4]; first | done | rfl) (by decide) rfl ?_
        refine V_goto 4 dX5_countAlike_27 rfl ?_
        refine V_sub (lo2 := [(0, .ref (3 + 3 * t)), (1, .int a1), (2, .int v3), (3, .int v4)]) [2, 3, 1, 0] rfl ?_
        exact ih _ _ h
def wX5_countAlike (t : Nat) (a1 : Int32) (I : QI) (post : Int32 → Prop) : Prop := (∃ f : Nat, wX5_countAlike_4 t a1 I post f 0 0)
set_option maxRecDepth 100000 in
set_option maxHeartbeats 4000000 in
theorem s_mX5_countAlike {X : QX} {S : QS} {t : Nat} {a1 : Int32} {I : QI} {J : QJ} {post : Int32 → Prop} (hS : Sh S) (ht : t < 4) (h : wX5_countAlike t a1 I post) : CX X mX5_countAlike 2 0 0 [.ref (3 + 3 * t), .int a1] S I J (q_Pi S (fun r I2 J2 => I = I2 ∧ J = J2 ∧ post r)) := by
  refine CX.of (lo := [(0, .ref (3 + 3 * t)), (1, .int a1)]) ok_mX5_countAlike rfl (Nat.le_of_ble_eq_true rfl) rfl ?_
  replace h : (∃ f : Nat, wX5_countAlike_4 t a1 I post f 0 0) := h
  refine V_iconst (v := 0) dX5_countAlike_0 (by decide) ?_
  refine V_istore_n (lo2 := [(2, .int 0), (0, .ref (3 + 3 * t)), (1, .int a1)]) dX5_countAlike_1 rfl (by decide) rfl ?_
  refine V_iconst (v := 0) dX5_countAlike_2 (by decide) ?_
  refine V_istore_n (lo2 := [(3, .int 0), (2, .int 0), (0, .ref (3 + 3 * t)), (1, .int a1)]) dX5_countAlike_3 rfl (by decide) rfl ?_
  refine V_sub (lo2 := [(0, .ref (3 + 3 * t)), (1, .int a1), (2, .int 0), (3, .int 0)]) [2, 3, 1, 0] rfl ?_
  obtain ⟨f9, h⟩ := h
  refine swX5_countAlike_4 hS ht f9 _ _ h
def wX5_isReachedEnd_2 (t : Nat) (a1 : Int32) (a2 : Int32) (I : QI) (post : Int32 → Prop) : Nat → Int32 → Prop
  | 0, _ => False
  | n + 1, x3 => ((a2 ≤ x3 → post 0) ∧ (¬ a2 ≤ x3 → ((10 ≤ x3 → post 0) ∧ (¬ 10 ≤ x3 → (vp_in x3 10 ∧ (((I (5 + 3 * t) (x3).toNatClampNeg) = 0 → (∀ v1 : Int32, v1 = (x3 + 1) → (wX5_isReachedEnd_2 t a1 a2 I post n v1))) ∧ (¬ (I (5 + 3 * t) (x3).toNatClampNeg) = 0 → (wX5_value t x3 1 I (fun r2 => ((¬ r2 = a1 → (∀ v3 : Int32, v3 = (x3 + 1) → (wX5_isReachedEnd_2 t a1 a2 I post n v3))) ∧ (r2 = a1 → post 1)))))))))))
set_option maxRecDepth 100000 in
set_option maxHeartbeats 4000000 in
theorem swX5_isReachedEnd_2 {X : QX} {S : QS} {t : Nat} {a1 : Int32} {a2 : Int32} {I : QI} {J : QJ} {post : Int32 → Prop} (hS : Sh S) (ht : t < 4) : ∀ (f : Nat) (x3 : Int32), wX5_isReachedEnd_2 t a1 a2 I post f x3 → V X mX5_isReachedEnd 1 0 0 (q_Pi S (fun r I2 J2 => I = I2 ∧ J = J2 ∧ post r)) 2 [(0, .ref (3 + 3 * t)), (1, .int a1), (2, .int a2), (3, .int x3)] [] S I J 0 0 := by
  intro f
  induction f with
  | zero => intro x3 h; exact h.elim
  | succ n ih =>
    intro x3 h
    replace h : ((a2 ≤ x3 → post 0) ∧ (¬ a2 ≤ x3 → ((10 ≤ x3 → post 0) ∧ (¬ 10 ≤ x3 → (vp_in x3 10 ∧ (((I (5 + 3 * t) (x3).toNatClampNeg) = 0 → (∀ v1 : Int32, v1 = (x3 + 1) → (wX5_isReachedEnd_2 t a1 a2 I post n v1))) ∧ (¬ (I (5 + 3 * t) (x3).toNatClampNeg) = 0 → (wX5_value t x3 1 I (fun r2 => ((¬ r2 = a1 → (∀ v3 : Int32, v3 = (x3 + 1) → (wX5_isReachedEnd_2 t a1 a2 I post n v3))) ∧ (r2 = a1 → post 1))))))))))) := h
    refine V_iload_n dX5_isReachedEnd_2 rfl rfl ?_
    refine V_iload_n dX5_isReachedEnd_3 rfl rfl ?_
    refine V_icmp_ge 40 dX5_isReachedEnd_4 rfl (fun hc => ?_) (fun hc => ?_)
    · replace h := h.1 hc
      refine V_iconst (v := 0) dX5_isReachedEnd_40 (by decide) ?_
      exact V_zret dX5_isReachedEnd_41 rfl (by decide) (by decide) (by decide) ⟨_, rfl, rfl, rfl, rfl, h⟩
    · replace h := h.2 hc
      refine V_iload_n dX5_isReachedEnd_7 rfl rfl ?_
      refine V_bipush (v := 10) dX5_isReachedEnd_8 (by decide) ?_
      refine V_icmp_ge 40 dX5_isReachedEnd_10 rfl (fun hc => ?_) (fun hc => ?_)
      · replace h := h.1 hc
        refine V_iconst (v := 0) dX5_isReachedEnd_40 (by decide) ?_
        exact V_zret dX5_isReachedEnd_41 rfl (by decide) (by decide) (by decide) ⟨_, rfl, rfl, rfl, rfl, h⟩
      · replace h := h.2 hc
        refine V_aload_n dX5_isReachedEnd_13 rfl rfl ?_
        refine V_getr dX5_isReachedEnd_14 fl_RX5_15 (hS.tn ht 3 rfl) (hS.tk ht) rfl (hS.trb ht) ?_
        refine V_iload_n dX5_isReachedEnd_17 rfl rfl ?_
        obtain ⟨hb, h⟩ := h
        refine V_zald dX5_isReachedEnd_18 (hS.tn ht 5 rfl) (hS.tbk ht) (by rw [(hS.tbz ht)]; exact hb) ?_
        refine V_if_eq 34 dX5_isReachedEnd_19 rfl (fun hc => ?_) (fun hc => ?_)
        · replace h := h.1 hc
          obtain ⟨v1, e_v1⟩ : ∃ z : Int32, z = (x3 + 1) := ⟨_, rfl⟩
          replace h := h v1 e_v1
          refine V_iinc (lo2 := [(3, .int v1), (0, .ref (3 + 3 * t)), (1, .int a1), (2, .int a2)]) 3 dX5_isReachedEnd_34 rfl (v := v1) (by rw [e_v1]; first | done | rfl) (by decide) rfl ?_
          refine V_goto 2 dX5_isReachedEnd_37 rfl ?_
          refine V_sub (lo2 := [(0, .ref (3 + 3 * t)), (1, .int a1), (2, .int a2), (3, .int v1)]) [1, 2, 3, 0] rfl ?_
          exact ih _ h
        · replace h := h.2 hc
          refine V_aload_n dX5_isReachedEnd_22 rfl rfl ?_
          refine V_iload_n dX5_isReachedEnd_23 rfl rfl ?_
          refine V_iconst (v := 1) dX5_isReachedEnd_24 (by decide) ?_
          refine V_callVi (st := []) [.int x3, .int 1] dX5_isReachedEnd_25 ok_mX5_value rfl ml_RX5_34 in_mX5_value se_mX5_value (hS.tn ht 3 rfl) (hS.tk ht) (by decide) rfl (Nat.le_of_ble_eq_true rfl) (by decide) (by decide) (by decide) (s_mX5_value hS ht h) (fun r2 I9 J9 h => ?_)
          obtain ⟨rfl, rfl, h⟩ := h
          refine V_iload_n dX5_isReachedEnd_28 rfl rfl ?_
          refine V_icmp_ne 34 dX5_isReachedEnd_29 rfl (fun hc => ?_) (fun hc => ?_)
          · replace h := h.1 hc
            obtain ⟨v3, e_v3⟩ : ∃ z : Int32, z = (x3 + 1) := ⟨_, rfl⟩
            replace h := h v3 e_v3
            refine V_iinc (lo2 := [(3, .int v3), (0, .ref (3 + 3 * t)), (1, .int a1), (2, .int a2)]) 3 dX5_isReachedEnd_34 rfl (v := v3) (by rw [e_v3]; first | done | rfl) (by decide) rfl ?_
            refine V_goto 2 dX5_isReachedEnd_37 rfl ?_
            refine V_sub (lo2 := [(0, .ref (3 + 3 * t)), (1, .int a1), (2, .int a2), (3, .int v3)]) [1, 2, 3, 0] rfl ?_
            exact ih _ h
          · replace h := h.2 hc
            refine V_iconst (v := 1) dX5_isReachedEnd_32 (by decide) ?_
            exact V_zret dX5_isReachedEnd_33 rfl (by decide) (by decide) (by decide) ⟨_, rfl, rfl, rfl, rfl, h⟩
def wX5_isReachedEnd (t : Nat) (a1 : Int32) (a2 : Int32) (I : QI) (post : Int32 → Prop) : Prop := (∃ f : Nat, wX5_isReachedEnd_2 t a1 a2 I post f 0)
set_option maxRecDepth 100000 in
set_option maxHeartbeats 4000000 in
theorem s_mX5_isReachedEnd {X : QX} {S : QS} {t : Nat} {a1 : Int32} {a2 : Int32} {I : QI} {J : QJ} {post : Int32 → Prop} (hS : Sh S) (ht : t < 4) (h : wX5_isReachedEnd t a1 a2 I post) : CX X mX5_isReachedEnd 1 0 0 [.ref (3 + 3 * t), .int a1, .int a2] S I J (q_Pi S (fun r I2 J2 => I = I2 ∧ J = J2 ∧ post r)) := by
  refine CX.of (lo := [(0, .ref (3 + 3 * t)), (1, .int a1), (2, .int a2)]) ok_mX5_isReachedEnd rfl (Nat.le_of_ble_eq_true rfl) rfl ?_
  replace h : (∃ f : Nat, wX5_isReachedEnd_2 t a1 a2 I post f 0) := h
  refine V_iconst (v := 0) dX5_isReachedEnd_0 (by decide) ?_
  refine V_istore_n (lo2 := [(3, .int 0), (0, .ref (3 + 3 * t)), (1, .int a1), (2, .int a2)]) dX5_isReachedEnd_1 rfl (by decide) rfl ?_
  refine V_sub (lo2 := [(0, .ref (3 + 3 * t)), (1, .int a1), (2, .int a2), (3, .int 0)]) [1, 2, 3, 0] rfl ?_
  obtain ⟨f9, h⟩ := h
  refine swX5_isReachedEnd_2 hS ht f9 _ h
def wX5_countReachedEnds_4 (t : Nat) (I : QI) (post : Int32 → Prop) : Nat → Int32 → Int32 → Prop
  | 0, _, _ => False
  | n + 1, x1, x2 => (((I (3 + 3 * t) 3) ≤ x2 → post x1) ∧ (¬ (I (3 + 3 * t) 3) ≤ x2 → ((10 ≤ x2 → post x1) ∧ (¬ 10 ≤ x2 → (vp_in x2 10 ∧ (((I (5 + 3 * t) (x2).toNatClampNeg) = 0 → (∀ v1 : Int32, v1 = (x2 + 1) → (wX5_countReachedEnds_4 t I post n x1 v1))) ∧ (¬ (I (5 + 3 * t) (x2).toNatClampNeg) = 0 → (wX5_value t x2 1 I (fun r2 => (wX5_isReachedEnd t r2 x2 I (fun r3 => ((¬ r3 = 0 → (∀ v4 : Int32, v4 = (x2 + 1) → (wX5_countReachedEnds_4 t I post n x1 v4))) ∧ (r3 = 0 → (∀ v5 : Int32, v5 = (x1 + 1) → (∀ v6 : Int32, v6 = (x2 + 1) → (wX5_countReachedEnds_4 t I post n v5 v6))))))))))))))))
set_option maxRecDepth 100000 in
set_option maxHeartbeats 4000000 in
theorem swX5_countReachedEnds_4 {X : QX} {S : QS} {t : Nat} {I : QI} {J : QJ} {post : Int32 → Prop} (hS : Sh S) (ht : t < 4) : ∀ (f : Nat) (x1 : Int32) (x2 : Int32), wX5_countReachedEnds_4 t I post f x1 x2 → V X mX5_countReachedEnds 2 0 0 (q_Pi S (fun r I2 J2 => I = I2 ∧ J = J2 ∧ post r)) 4 [(0, .ref (3 + 3 * t)), (1, .int x1), (2, .int x2)] [] S I J 0 0 := by
  intro f
  induction f with
  | zero => intro x1 x2 h; exact h.elim
  | succ n ih =>
    intro x1 x2 h
    replace h : (((I (3 + 3 * t) 3) ≤ x2 → post x1) ∧ (¬ (I (3 + 3 * t) 3) ≤ x2 → ((10 ≤ x2 → post x1) ∧ (¬ 10 ≤ x2 → (vp_in x2 10 ∧ (((I (5 + 3 * t) (x2).toNatClampNeg) = 0 → (∀ v1 : Int32, v1 = (x2 + 1) → (wX5_countReachedEnds_4 t I post n x1 v1))) ∧ (¬ (I (5 + 3 * t) (x2).toNatClampNeg) = 0 → (wX5_value t x2 1 I (fun r2 => (wX5_isReachedEnd t r2 x2 I (fun r3 => ((¬ r3 = 0 → (∀ v4 : Int32, v4 = (x2 + 1) → (wX5_countReachedEnds_4 t I post n x1 v4))) ∧ (r3 = 0 → (∀ v5 : Int32, v5 = (x1 + 1) → (∀ v6 : Int32, v6 = (x2 + 1) → (wX5_countReachedEnds_4 t I post n v5 v6)))))))))))))))) := h
    refine V_iload_n dX5_countReachedEnds_4 rfl rfl ?_
    refine V_aload_n dX5_countReachedEnds_5 rfl rfl ?_
    refine V_geti dX5_countReachedEnds_6 fl_RX5_23 (hS.tn ht 3 rfl) (hS.tk ht) rfl ?_
    refine V_icmp_ge 50 dX5_countReachedEnds_9 rfl (fun hc => ?_) (fun hc => ?_)
    · replace h := h.1 hc
      refine V_iload_n dX5_countReachedEnds_50 rfl rfl ?_
      exact V_iret dX5_countReachedEnds_51 rfl (by decide) (by decide) ⟨_, rfl, rfl, rfl, rfl, h⟩
    · replace h := h.2 hc
      refine V_iload_n dX5_countReachedEnds_12 rfl rfl ?_
      refine V_bipush (v := 10) dX5_countReachedEnds_13 (by decide) ?_
      refine V_icmp_ge 50 dX5_countReachedEnds_15 rfl (fun hc => ?_) (fun hc => ?_)
      · replace h := h.1 hc
        refine V_iload_n dX5_countReachedEnds_50 rfl rfl ?_
        exact V_iret dX5_countReachedEnds_51 rfl (by decide) (by decide) ⟨_, rfl, rfl, rfl, rfl, h⟩
      · replace h := h.2 hc
        refine V_aload_n dX5_countReachedEnds_18 rfl rfl ?_
        refine V_getr dX5_countReachedEnds_19 fl_RX5_15 (hS.tn ht 3 rfl) (hS.tk ht) rfl (hS.trb ht) ?_
        refine V_iload_n dX5_countReachedEnds_22 rfl rfl ?_
        obtain ⟨hb, h⟩ := h
        refine V_zald dX5_countReachedEnds_23 (hS.tn ht 5 rfl) (hS.tbk ht) (by rw [(hS.tbz ht)]; exact hb) ?_
        refine V_if_eq 44 dX5_countReachedEnds_24 rfl (fun hc => ?_) (fun hc => ?_)
        · replace h := h.1 hc
          obtain ⟨v1, e_v1⟩ : ∃ z : Int32, z = (x2 + 1) := ⟨_, rfl⟩
          replace h := h v1 e_v1
          refine V_iinc (lo2 := [(2, .int v1), (0, .ref (3 + 3 * t)), (1, .int x1)]) 2 dX5_countReachedEnds_44 rfl (v := v1) (by rw [e_v1]; first | done | rfl) (by decide) rfl ?_
          refine V_goto 4 dX5_countReachedEnds_47 rfl ?_
          refine V_sub (lo2 := [(0, .ref (3 + 3 * t)), (1, .int x1), (2, .int v1)]) [1, 2, 0] rfl ?_
          exact ih _ _ h
        · replace h := h.2 hc
          refine V_aload_n dX5_countReachedEnds_27 rfl rfl ?_
          refine V_aload_n dX5_countReachedEnds_28 rfl rfl ?_
          refine V_iload_n dX5_countReachedEnds_29 rfl rfl ?_
          refine V_iconst (v := 1) dX5_countReachedEnds_30 (by decide) ?_
          refine V_callVi (st := [.ref (3 + 3 * t)]) [.int x2, .int 1] dX5_countReachedEnds_31 ok_mX5_value rfl ml_RX5_34 in_mX5_value se_mX5_value (hS.tn ht 3 rfl) (hS.tk ht) (by decide) rfl (Nat.le_of_ble_eq_true rfl) (by decide) (by decide) (by decide) (s_mX5_value hS ht h) (fun r2 I9 J9 h => ?_)
          obtain ⟨rfl, rfl, h⟩ := h
          refine V_iload_n dX5_countReachedEnds_34 rfl rfl ?_
          refine V_callVi (st := []) [.int r2, .int x2] dX5_countReachedEnds_35 ok_mX5_isReachedEnd rfl ml_RX5_58 in_mX5_isReachedEnd se_mX5_isReachedEnd (hS.tn ht 3 rfl) (hS.tk ht) (by decide) rfl (Nat.le_of_ble_eq_true rfl) (by decide) (by decide) (by decide) (s_mX5_isReachedEnd hS ht h) (fun r3 I9 J9 h => ?_)
          obtain ⟨rfl, rfl, h⟩ := h
          refine V_if_ne 44 dX5_countReachedEnds_38 rfl (fun hc => ?_) (fun hc => ?_)
          · replace h := h.1 hc
            obtain ⟨v4, e_v4⟩ : ∃ z : Int32, z = (x2 + 1) := ⟨_, rfl⟩
            replace h := h v4 e_v4
            refine V_iinc (lo2 := [(2, .int v4), (0, .ref (3 + 3 * t)), (1, .int x1)]) 2 dX5_countReachedEnds_44 rfl (v := v4) (by rw [e_v4]; first | done | rfl) (by decide) rfl ?_
            refine V_goto 4 dX5_countReachedEnds_47 rfl ?_
            refine V_sub (lo2 := [(0, .ref (3 + 3 * t)), (1, .int x1), (2, .int v4)]) [1, 2, 0] rfl ?_
            exact ih _ _ h
          · replace h := h.2 hc
            obtain ⟨v5, e_v5⟩ : ∃ z : Int32, z = (x1 + 1) := ⟨_, rfl⟩
            replace h := h v5 e_v5
            refine V_iinc (lo2 := [(1, .int v5), (0, .ref (3 + 3 * t)), (2, .int x2)]) 1 dX5_countReachedEnds_41 rfl (v := v5) (by rw [e_v5]; first | done | rfl) (by decide) rfl ?_
            obtain ⟨v6, e_v6⟩ : ∃ z : Int32, z = (x2 + 1) := ⟨_, rfl⟩
            replace h := h v6 e_v6
            refine V_iinc (lo2 := [(2, .int v6), (1, .int v5), (0, .ref (3 + 3 * t))]) 2 dX5_countReachedEnds_44 rfl (v := v6) (by rw [e_v6]; first | done | rfl) (by decide) rfl ?_
            refine V_goto 4 dX5_countReachedEnds_47 rfl ?_
            refine V_sub (lo2 := [(0, .ref (3 + 3 * t)), (1, .int v5), (2, .int v6)]) [2, 1, 0] rfl ?_
            exact ih _ _ h
def wX5_countReachedEnds (t : Nat) (I : QI) (post : Int32 → Prop) : Prop := (∃ f : Nat, wX5_countReachedEnds_4 t I post f 0 0)
set_option maxRecDepth 100000 in
set_option maxHeartbeats 4000000 in
theorem s_mX5_countReachedEnds {X : QX} {S : QS} {t : Nat} {I : QI} {J : QJ} {post : Int32 → Prop} (hS : Sh S) (ht : t < 4) (h : wX5_countReachedEnds t I post) : CX X mX5_countReachedEnds 2 0 0 [.ref (3 + 3 * t)] S I J (q_Pi S (fun r I2 J2 => I = I2 ∧ J = J2 ∧ post r)) := by
  refine CX.of (lo := [(0, .ref (3 + 3 * t))]) ok_mX5_countReachedEnds rfl (Nat.le_of_ble_eq_true rfl) rfl ?_
  replace h : (∃ f : Nat, wX5_countReachedEnds_4 t I post f 0 0) := h
  refine V_iconst (v := 0) dX5_countReachedEnds_0 (by decide) ?_
  refine V_istore_n (lo2 := [(1, .int 0), (0, .ref (3 + 3 * t))]) dX5_countReachedEnds_1 rfl (by decide) rfl ?_
  refine V_iconst (v := 0) dX5_countReachedEnds_2 (by decide) ?_
  refine V_istore_n (lo2 := [(2, .int 0), (1, .int 0), (0, .ref (3 + 3 * t))]) dX5_countReachedEnds_3 rfl (by decide) rfl ?_
  refine V_sub (lo2 := [(0, .ref (3 + 3 * t)), (1, .int 0), (2, .int 0)]) [2, 1, 0] rfl ?_
  obtain ⟨f9, h⟩ := h
  refine swX5_countReachedEnds_4 hS ht f9 _ _ h
def wX5_isStep (t : Nat) (a1 : Int32) (I : QI) (post : Int32 → Prop) : Prop := (wX5_value t a1 0 I (fun r1 => ((r1 = (-1000) → post 0) ∧ (¬ r1 = (-1000) → (wX5_value t a1 1 I (fun r2 => ((r2 = (-1000) → post 0) ∧ (¬ r2 = (-1000) → post 1))))))))
set_option maxRecDepth 100000 in
set_option maxHeartbeats 4000000 in
theorem s_mX5_isStep {X : QX} {S : QS} {t : Nat} {a1 : Int32} {I : QI} {J : QJ} {post : Int32 → Prop} (hS : Sh S) (ht : t < 4) (h : wX5_isStep t a1 I post) : CX X mX5_isStep 1 0 0 [.ref (3 + 3 * t), .int a1] S I J (q_Pi S (fun r I2 J2 => I = I2 ∧ J = J2 ∧ post r)) := by
  refine CX.of (lo := [(0, .ref (3 + 3 * t)), (1, .int a1)]) ok_mX5_isStep rfl (Nat.le_of_ble_eq_true rfl) rfl ?_
  replace h : (wX5_value t a1 0 I (fun r1 => ((r1 = (-1000) → post 0) ∧ (¬ r1 = (-1000) → (wX5_value t a1 1 I (fun r2 => ((r2 = (-1000) → post 0) ∧ (¬ r2 = (-1000) → post 1)))))))) := h
  refine V_aload_n dX5_isStep_0 rfl rfl ?_
  refine V_iload_n dX5_isStep_1 rfl rfl ?_
  refine V_iconst (v := 0) dX5_isStep_2 (by decide) ?_
  refine V_callVi (st := []) [.int a1, .int 0] dX5_isStep_3 ok_mX5_value rfl ml_RX5_34 in_mX5_value se_mX5_value (hS.tn ht 3 rfl) (hS.tk ht) (by decide) rfl (Nat.le_of_ble_eq_true rfl) (by decide) (by decide) (by decide) (s_mX5_value hS ht h) (fun r1 I9 J9 h => ?_)
  obtain ⟨rfl, rfl, h⟩ := h
  refine V_sipush (v := (-1000)) dX5_isStep_6 (by decide) ?_
  refine V_icmp_eq 28 dX5_isStep_9 rfl (fun hc => ?_) (fun hc => ?_)
  · replace h := h.1 hc
    refine V_iconst (v := 0) dX5_isStep_28 (by decide) ?_
    exact V_zret dX5_isStep_29 rfl (by decide) (by decide) (by decide) ⟨_, rfl, rfl, rfl, rfl, h⟩
  · replace h := h.2 hc
    refine V_aload_n dX5_isStep_12 rfl rfl ?_
    refine V_iload_n dX5_isStep_13 rfl rfl ?_
    refine V_iconst (v := 1) dX5_isStep_14 (by decide) ?_
    refine V_callVi (st := []) [.int a1, .int 1] dX5_isStep_15 ok_mX5_value rfl ml_RX5_34 in_mX5_value se_mX5_value (hS.tn ht 3 rfl) (hS.tk ht) (by decide) rfl (Nat.le_of_ble_eq_true rfl) (by decide) (by decide) (by decide) (s_mX5_value hS ht h) (fun r2 I9 J9 h => ?_)
    obtain ⟨rfl, rfl, h⟩ := h
    refine V_sipush (v := (-1000)) dX5_isStep_18 (by decide) ?_
    refine V_icmp_eq 28 dX5_isStep_21 rfl (fun hc => ?_) (fun hc => ?_)
    · replace h := h.1 hc
      refine V_iconst (v := 0) dX5_isStep_28 (by decide) ?_
      exact V_zret dX5_isStep_29 rfl (by decide) (by decide) (by decide) ⟨_, rfl, rfl, rfl, rfl, h⟩
    · replace h := h.2 hc
      refine V_iconst (v := 1) dX5_isStep_24 (by decide) ?_
      refine V_goto 29 dX5_isStep_25 rfl ?_
      exact V_zret dX5_isStep_29 rfl (by decide) (by decide) (by decide) ⟨_, rfl, rfl, rfl, rfl, h⟩
def wX5_isNewStart_2 (t : Nat) (a1 : Int32) (I : QI) (K38 : Prop) (post : Int32 → Prop) : Nat → Int32 → Prop
  | 0, _ => False
  | n + 1, x2 => ((a1 ≤ x2 → (K38)) ∧ (¬ a1 ≤ x2 → (wX5_isStep t x2 I (fun r1 => ((r1 = 0 → (∀ v2 : Int32, v2 = (x2 + 1) → (wX5_isNewStart_2 t a1 I K38 post n v2))) ∧ (¬ r1 = 0 → (wX5_value t x2 0 I (fun r3 => (wX5_value t a1 0 I (fun r4 => ((¬ r3 = r4 → (∀ v5 : Int32, v5 = (x2 + 1) → (wX5_isNewStart_2 t a1 I K38 post n v5))) ∧ (r3 = r4 → post 0))))))))))))
set_option maxRecDepth 100000 in
set_option maxHeartbeats 4000000 in
theorem swX5_isNewStart_2 {X : QX} {S : QS} {t : Nat} {a1 : Int32} {I : QI} {J : QJ} {K38 : Prop} {post : Int32 → Prop} (hS : Sh S) (ht : t < 4) (hK38 : ∀ (_ : Unit), K38 → V X mX5_isNewStart 2 0 0 (q_Pi S (fun r I2 J2 => I = I2 ∧ J = J2 ∧ post r)) 38 [(0, .ref (3 + 3 * t)), (1, .int a1)] [] S I J 0 0) : ∀ (f : Nat) (x2 : Int32), wX5_isNewStart_2 t a1 I K38 post f x2 → V X mX5_isNewStart 2 0 0 (q_Pi S (fun r I2 J2 => I = I2 ∧ J = J2 ∧ post r)) 2 [(0, .ref (3 + 3 * t)), (1, .int a1), (2, .int x2)] [] S I J 0 0 := by
  intro f
  induction f with
  | zero => intro x2 h; exact h.elim
  | succ n ih =>
    intro x2 h
    replace h : ((a1 ≤ x2 → (K38)) ∧ (¬ a1 ≤ x2 → (wX5_isStep t x2 I (fun r1 => ((r1 = 0 → (∀ v2 : Int32, v2 = (x2 + 1) → (wX5_isNewStart_2 t a1 I K38 post n v2))) ∧ (¬ r1 = 0 → (wX5_value t x2 0 I (fun r3 => (wX5_value t a1 0 I (fun r4 => ((¬ r3 = r4 → (∀ v5 : Int32, v5 = (x2 + 1) → (wX5_isNewStart_2 t a1 I K38 post n v5))) ∧ (r3 = r4 → post 0)))))))))))) := h
    refine V_iload_n dX5_isNewStart_2 rfl rfl ?_
    refine V_iload_n dX5_isNewStart_3 rfl rfl ?_
    refine V_icmp_ge 38 dX5_isNewStart_4 rfl (fun hc => ?_) (fun hc => ?_)
    · replace h := h.1 hc
      refine V_sub (lo2 := [(0, .ref (3 + 3 * t)), (1, .int a1)]) [0, 1] rfl ?_
      exact hK38 () h
    · replace h := h.2 hc
      refine V_aload_n dX5_isNewStart_7 rfl rfl ?_
      refine V_iload_n dX5_isNewStart_8 rfl rfl ?_
      refine V_callVi (st := []) [.int x2] dX5_isNewStart_9 ok_mX5_isStep rfl ml_RX5_55 in_mX5_isStep se_mX5_isStep (hS.tn ht 3 rfl) (hS.tk ht) (by decide) rfl (Nat.le_of_ble_eq_true rfl) (by decide) (by decide) (by decide) (s_mX5_isStep hS ht h) (fun r1 I9 J9 h => ?_)
      obtain ⟨rfl, rfl, h⟩ := h
      refine V_if_eq 32 dX5_isNewStart_12 rfl (fun hc => ?_) (fun hc => ?_)
      · replace h := h.1 hc
        obtain ⟨v2, e_v2⟩ : ∃ z : Int32, z = (x2 + 1) := ⟨_, rfl⟩
        replace h := h v2 e_v2
        refine V_iinc (lo2 := [(2, .int v2), (0, .ref (3 + 3 * t)), (1, .int a1)]) 2 dX5_isNewStart_32 rfl (v := v2) (by rw [e_v2]; first | done | rfl) (by decide) rfl ?_
        refine V_goto 2 dX5_isNewStart_35 rfl ?_
        refine V_sub (lo2 := [(0, .ref (3 + 3 * t)), (1, .int a1), (2, .int v2)]) [1, 2, 0] rfl ?_
        exact ih _ h
      · replace h := h.2 hc
        refine V_aload_n dX5_isNewStart_15 rfl rfl ?_
        refine V_iload_n dX5_isNewStart_16 rfl rfl ?_
        refine V_iconst (v := 0) dX5_isNewStart_17 (by decide) ?_
        refine V_callVi (st := []) [.int x2, .int 0] dX5_isNewStart_18 ok_mX5_value rfl ml_RX5_34 in_mX5_value se_mX5_value (hS.tn ht 3 rfl) (hS.tk ht) (by decide) rfl (Nat.le_of_ble_eq_true rfl) (by decide) (by decide) (by decide) (s_mX5_value hS ht h) (fun r3 I9 J9 h => ?_)
        obtain ⟨rfl, rfl, h⟩ := h
        refine V_aload_n dX5_isNewStart_21 rfl rfl ?_
        refine V_iload_n dX5_isNewStart_22 rfl rfl ?_
        refine V_iconst (v := 0) dX5_isNewStart_23 (by decide) ?_
        refine V_callVi (st := [.int r3]) [.int a1, .int 0] dX5_isNewStart_24 ok_mX5_value rfl ml_RX5_34 in_mX5_value se_mX5_value (hS.tn ht 3 rfl) (hS.tk ht) (by decide) rfl (Nat.le_of_ble_eq_true rfl) (by decide) (by decide) (by decide) (s_mX5_value hS ht h) (fun r4 I9 J9 h => ?_)
        obtain ⟨rfl, rfl, h⟩ := h
        refine V_icmp_ne 32 dX5_isNewStart_27 rfl (fun hc => ?_) (fun hc => ?_)
        · replace h := h.1 hc
          obtain ⟨v5, e_v5⟩ : ∃ z : Int32, z = (x2 + 1) := ⟨_, rfl⟩
          replace h := h v5 e_v5
          refine V_iinc (lo2 := [(2, .int v5), (0, .ref (3 + 3 * t)), (1, .int a1)]) 2 dX5_isNewStart_32 rfl (v := v5) (by rw [e_v5]; first | done | rfl) (by decide) rfl ?_
          refine V_goto 2 dX5_isNewStart_35 rfl ?_
          refine V_sub (lo2 := [(0, .ref (3 + 3 * t)), (1, .int a1), (2, .int v5)]) [1, 2, 0] rfl ?_
          exact ih _ h
        · replace h := h.2 hc
          refine V_iconst (v := 0) dX5_isNewStart_30 (by decide) ?_
          exact V_zret dX5_isNewStart_31 rfl (by decide) (by decide) (by decide) ⟨_, rfl, rfl, rfl, rfl, h⟩
def wX5_isNewStart (t : Nat) (a1 : Int32) (I : QI) (post : Int32 → Prop) : Prop := (∃ f : Nat, wX5_isNewStart_2 t a1 I (wX5_isStep t a1 I (fun r6 => ((r6 = 0 ∨ r6 = 1) ∧ post r6))) post f 0)
set_option maxRecDepth 100000 in
set_option maxHeartbeats 4000000 in
theorem s_mX5_isNewStart {X : QX} {S : QS} {t : Nat} {a1 : Int32} {I : QI} {J : QJ} {post : Int32 → Prop} (hS : Sh S) (ht : t < 4) (h : wX5_isNewStart t a1 I post) : CX X mX5_isNewStart 2 0 0 [.ref (3 + 3 * t), .int a1] S I J (q_Pi S (fun r I2 J2 => I = I2 ∧ J = J2 ∧ post r)) := by
  refine CX.of (lo := [(0, .ref (3 + 3 * t)), (1, .int a1)]) ok_mX5_isNewStart rfl (Nat.le_of_ble_eq_true rfl) rfl ?_
  replace h : (∃ f : Nat, wX5_isNewStart_2 t a1 I (wX5_isStep t a1 I (fun r6 => ((r6 = 0 ∨ r6 = 1) ∧ post r6))) post f 0) := h
  refine V_iconst (v := 0) dX5_isNewStart_0 (by decide) ?_
  refine V_istore_n (lo2 := [(2, .int 0), (0, .ref (3 + 3 * t)), (1, .int a1)]) dX5_isNewStart_1 rfl (by decide) rfl ?_
  refine V_sub (lo2 := [(0, .ref (3 + 3 * t)), (1, .int a1), (2, .int 0)]) [1, 2, 0] rfl ?_
  obtain ⟨f9, h⟩ := h
  refine swX5_isNewStart_2 hS ht ?_ f9 _ h
  · intro _ h
    refine V_aload_n dX5_isNewStart_38 rfl rfl ?_
    refine V_iload_n dX5_isNewStart_39 rfl rfl ?_
    refine V_callVi (st := []) [.int a1] dX5_isNewStart_40 ok_mX5_isStep rfl ml_RX5_55 in_mX5_isStep se_mX5_isStep (hS.tn ht 3 rfl) (hS.tk ht) (by decide) rfl (Nat.le_of_ble_eq_true rfl) (by decide) (by decide) (by decide) (s_mX5_isStep hS ht h) (fun r6 I9 J9 h => ?_)
    obtain ⟨rfl, rfl, h⟩ := h
    obtain ⟨hz, h⟩ := h
    exact V_zret dX5_isNewStart_43 rfl (q_nz hz) (by decide) (by decide) ⟨_, rfl, rfl, rfl, rfl, h⟩
def wX5_spread_2 (t : Nat) (a1 : Int32) (K51 : QI → Prop) (post : QI → Prop) : Nat → Int32 → QI → Prop
  | 0, _, _ => False
  | n + 1, x2, I => (((I (3 + 3 * t) 3) ≤ x2 → (K51 I)) ∧ (¬ (I (3 + 3 * t) 3) ≤ x2 → ((10 ≤ x2 → (K51 I)) ∧ (¬ 10 ≤ x2 → (wX5_isStep t x2 I (fun r1 => ((r1 = 0 → (vp_in x2 10 ∧ (∀ I2 : QI, I2 = q_u2 I (5 + 3 * t) (x2).toNatClampNeg 0 → (∀ v3 : Int32, v3 = (x2 + 1) → (wX5_spread_2 t a1 K51 post n v3 I2))))) ∧ (¬ r1 = 0 → (wX5_value t x2 0 I (fun r4 => ((¬ r4 = a1 → (vp_in x2 10 ∧ (∀ I5 : QI, I5 = q_u2 I (5 + 3 * t) (x2).toNatClampNeg 0 → (∀ v6 : Int32, v6 = (x2 + 1) → (wX5_spread_2 t a1 K51 post n v6 I5))))) ∧ (r4 = a1 → (vp_in x2 10 ∧ (∀ I7 : QI, I7 = q_u2 I (5 + 3 * t) (x2).toNatClampNeg 1 → (∀ v8 : Int32, v8 = (x2 + 1) → (wX5_spread_2 t a1 K51 post n v8 I7))))))))))))))))
set_option maxRecDepth 100000 in
set_option maxHeartbeats 4000000 in
theorem swX5_spread_2 {X : QX} {S : QS} {t : Nat} {a1 : Int32} {J : QJ} {K51 : QI → Prop} {post : QI → Prop} (hS : Sh S) (ht : t < 4) (hK51 : ∀ (I : QI), K51 I → V X mX5_spread 2 0 0 (q_Pv S (fun I2 J2 => J = J2 ∧ post I2)) 51 [(0, .ref (3 + 3 * t))] [] S I J 0 0) : ∀ (f : Nat) (x2 : Int32) (I : QI), wX5_spread_2 t a1 K51 post f x2 I → V X mX5_spread 2 0 0 (q_Pv S (fun I2 J2 => J = J2 ∧ post I2)) 2 [(0, .ref (3 + 3 * t)), (1, .int a1), (2, .int x2)] [] S I J 0 0 := by
  intro f
  induction f with
  | zero => intro x2 I h; exact h.elim
  | succ n ih =>
    intro x2 I h
    replace h : (((I (3 + 3 * t) 3) ≤ x2 → (K51 I)) ∧ (¬ (I (3 + 3 * t) 3) ≤ x2 → ((10 ≤ x2 → (K51 I)) ∧ (¬ 10 ≤ x2 → (wX5_isStep t x2 I (fun r1 => ((r1 = 0 → (vp_in x2 10 ∧ (∀ I2 : QI, I2 = q_u2 I (5 + 3 * t) (x2).toNatClampNeg 0 → (∀ v3 : Int32, v3 = (x2 + 1) → (wX5_spread_2 t a1 K51 post n v3 I2))))) ∧ (¬ r1 = 0 → (wX5_value t x2 0 I (fun r4 => ((¬ r4 = a1 → (vp_in x2 10 ∧ (∀ I5 : QI, I5 = q_u2 I (5 + 3 * t) (x2).toNatClampNeg 0 → (∀ v6 : Int32, v6 = (x2 + 1) → (wX5_spread_2 t a1 K51 post n v6 I5))))) ∧ (r4 = a1 → (vp_in x2 10 ∧ (∀ I7 : QI, I7 = q_u2 I (5 + 3 * t) (x2).toNatClampNeg 1 → (∀ v8 : Int32, v8 = (x2 + 1) → (wX5_spread_2 t a1 K51 post n v8 I7)))))))))))))))) := h
    refine V_iload_n dX5_spread_2 rfl rfl ?_
    refine V_aload_n dX5_spread_3 rfl rfl ?_
    refine V_geti dX5_spread_4 fl_RX5_23 (hS.tn ht 3 rfl) (hS.tk ht) rfl ?_
    refine V_icmp_ge 51 dX5_spread_7 rfl (fun hc => ?_) (fun hc => ?_)
    · replace h := h.1 hc
      refine V_sub (lo2 := [(0, .ref (3 + 3 * t))]) [0] rfl ?_
      exact hK51 _ h
    · replace h := h.2 hc
      refine V_iload_n dX5_spread_10 rfl rfl ?_
      refine V_bipush (v := 10) dX5_spread_11 (by decide) ?_
      refine V_icmp_ge 51 dX5_spread_13 rfl (fun hc => ?_) (fun hc => ?_)
      · replace h := h.1 hc
        refine V_sub (lo2 := [(0, .ref (3 + 3 * t))]) [0] rfl ?_
        exact hK51 _ h
      · replace h := h.2 hc
        refine V_aload_n dX5_spread_16 rfl rfl ?_
        refine V_getr dX5_spread_17 fl_RX5_15 (hS.tn ht 3 rfl) (hS.tk ht) rfl (hS.trb ht) ?_
        refine V_iload_n dX5_spread_20 rfl rfl ?_
        refine V_aload_n dX5_spread_21 rfl rfl ?_
        refine V_iload_n dX5_spread_22 rfl rfl ?_
        refine V_callVi (st := [.int x2, .ref (5 + 3 * t)]) [.int x2] dX5_spread_23 ok_mX5_isStep rfl ml_RX5_55 in_mX5_isStep se_mX5_isStep (hS.tn ht 3 rfl) (hS.tk ht) (by decide) rfl (Nat.le_of_ble_eq_true rfl) (by decide) (by decide) (by decide) (s_mX5_isStep hS ht h) (fun r1 I9 J9 h => ?_)
        obtain ⟨rfl, rfl, h⟩ := h
        refine V_if_eq 43 dX5_spread_26 rfl (fun hc => ?_) (fun hc => ?_)
        · replace h := h.1 hc
          refine V_iconst (v := 0) dX5_spread_43 (by decide) ?_
          obtain ⟨hb, h⟩ := h
          refine V_zast dX5_spread_44 (hS.tn ht 5 rfl) (hS.tbk ht) (by rw [(hS.tbz ht)]; exact hb) (q_vz (by decide)) ?_
          refine V_memI (fun I2 e_I2 => ?_)
          replace h := h I2 e_I2
          obtain ⟨v3, e_v3⟩ : ∃ z : Int32, z = (x2 + 1) := ⟨_, rfl⟩
          replace h := h v3 e_v3
          refine V_iinc (lo2 := [(2, .int v3), (0, .ref (3 + 3 * t)), (1, .int a1)]) 2 dX5_spread_45 rfl (v := v3) (by rw [e_v3]; first | done | rfl) (by decide) rfl ?_
          refine V_goto 2 dX5_spread_48 rfl ?_
          refine V_sub (lo2 := [(0, .ref (3 + 3 * t)), (1, .int a1), (2, .int v3)]) [1, 2, 0] rfl ?_
          exact ih _ _ h
        · replace h := h.2 hc
          refine V_aload_n dX5_spread_29 rfl rfl ?_
          refine V_iload_n dX5_spread_30 rfl rfl ?_
          refine V_iconst (v := 0) dX5_spread_31 (by decide) ?_
          refine V_callVi (st := [.int x2, .ref (5 + 3 * t)]) [.int x2, .int 0] dX5_spread_32 ok_mX5_value rfl ml_RX5_34 in_mX5_value se_mX5_value (hS.tn ht 3 rfl) (hS.tk ht) (by decide) rfl (Nat.le_of_ble_eq_true rfl) (by decide) (by decide) (by decide) (s_mX5_value hS ht h) (fun r4 I9 J9 h => ?_)
          obtain ⟨rfl, rfl, h⟩ := h
          refine V_iload_n dX5_spread_35 rfl rfl ?_
          refine V_icmp_ne 43 dX5_spread_36 rfl (fun hc => ?_) (fun hc => ?_)
          · replace h := h.1 hc
            refine V_iconst (v := 0) dX5_spread_43 (by decide) ?_
            obtain ⟨hb, h⟩ := h
            refine V_zast dX5_spread_44 (hS.tn ht 5 rfl) (hS.tbk ht) (by rw [(hS.tbz ht)]; exact hb) (q_vz (by decide)) ?_
            refine V_memI (fun I5 e_I5 => ?_)
            replace h := h I5 e_I5
            obtain ⟨v6, e_v6⟩ : ∃ z : Int32, z = (x2 + 1) := ⟨_, rfl⟩
            replace h := h v6 e_v6
            refine V_iinc (lo2 := [(2, .int v6), (0, .ref (3 + 3 * t)), (1, .int a1)]) 2 dX5_spread_45 rfl (v := v6) (by rw [e_v6]; first | done | rfl) (by decide) rfl ?_
            refine V_goto 2 dX5_spread_48 rfl ?_
            refine V_sub (lo2 := [(0, .ref (3 + 3 * t)), (1, .int a1), (2, .int v6)]) [1, 2, 0] rfl ?_
            exact ih _ _ h
          · replace h := h.2 hc
            refine V_iconst (v := 1) dX5_spread_39 (by decide) ?_
            refine V_goto 44 dX5_spread_40 rfl ?_
            obtain ⟨hb, h⟩ := h
            refine V_zast dX5_spread_44 (hS.tn ht 5 rfl) (hS.tbk ht) (by rw [(hS.tbz ht)]; exact hb) (q_vz (by decide)) ?_
            refine V_memI (fun I7 e_I7 => ?_)
            replace h := h I7 e_I7
            obtain ⟨v8, e_v8⟩ : ∃ z : Int32, z = (x2 + 1) := ⟨_, rfl⟩
            replace h := h v8 e_v8
            refine V_iinc (lo2 := [(2, .int v8), (0, .ref (3 + 3 * t)), (1, .int a1)]) 2 dX5_spread_45 rfl (v := v8) (by rw [e_v8]; first | done | rfl) (by decide) rfl ?_
            refine V_goto 2 dX5_spread_48 rfl ?_
            refine V_sub (lo2 := [(0, .ref (3 + 3 * t)), (1, .int a1), (2, .int v8)]) [1, 2, 0] rfl ?_
            exact ih _ _ h
def wX5_spread_63 (t : Nat) (a1 : Int32) (K128 : Int32 → QI → Prop) (post : QI → Prop) : Nat → Int32 → Int32 → QI → Prop
  | 0, _, _, _ => False
  | n + 1, x2, x3, I => (((I (3 + 3 * t) 3) ≤ x3 → (K128 x2 I)) ∧ (¬ (I (3 + 3 * t) 3) ≤ x3 → ((10 ≤ x3 → (K128 x2 I)) ∧ (¬ 10 ≤ x3 → (vp_in x3 10 ∧ ((¬ (I (5 + 3 * t) (x3).toNatClampNeg) = 0 → (vp_in x3 10 ∧ (∀ I10 : QI, I10 = q_u2 I (5 + 3 * t) (x3).toNatClampNeg 1 → (∀ v11 : Int32, v11 = (x3 + 1) → (wX5_spread_63 t a1 K128 post n x2 v11 I10))))) ∧ ((I (5 + 3 * t) (x3).toNatClampNeg) = 0 → (wX5_isStep t x3 I (fun r12 => ((r12 = 0 → (vp_in x3 10 ∧ (∀ I13 : QI, I13 = q_u2 I (5 + 3 * t) (x3).toNatClampNeg 0 → (∀ v14 : Int32, v14 = (x3 + 1) → (wX5_spread_63 t a1 K128 post n x2 v14 I13))))) ∧ (¬ r12 = 0 → (wX5_value t x3 0 I (fun r15 => (wX5_isReachedEnd t r15 (I (3 + 3 * t) 3) I (fun r16 => ((r16 = 0 → (vp_in x3 10 ∧ (∀ I17 : QI, I17 = q_u2 I (5 + 3 * t) (x3).toNatClampNeg 0 → (∀ v18 : Int32, v18 = (x3 + 1) → (wX5_spread_63 t a1 K128 post n x2 v18 I17))))) ∧ (¬ r16 = 0 → (vp_in x3 10 ∧ (∀ I19 : QI, I19 = q_u2 I (5 + 3 * t) (x3).toNatClampNeg 1 → (∀ v20 : Int32, v20 = (x3 + 1) → (wX5_spread_63 t a1 K128 post n x2 v20 I19)))))))))))))))))))))
set_option maxRecDepth 100000 in
set_option maxHeartbeats 4000000 in
theorem swX5_spread_63 {X : QX} {S : QS} {t : Nat} {a1 : Int32} {J : QJ} {K128 : Int32 → QI → Prop} {post : QI → Prop} (hS : Sh S) (ht : t < 4) (hK128 : ∀ (z2 : Int32) (I : QI), K128 z2 I → V X mX5_spread 2 0 0 (q_Pv S (fun I2 J2 => J = J2 ∧ post I2)) 128 [(0, .ref (3 + 3 * t)), (2, .int z2)] [] S I J 0 0) : ∀ (f : Nat) (x2 : Int32) (x3 : Int32) (I : QI), wX5_spread_63 t a1 K128 post f x2 x3 I → V X mX5_spread 2 0 0 (q_Pv S (fun I2 J2 => J = J2 ∧ post I2)) 63 [(0, .ref (3 + 3 * t)), (2, .int x2), (3, .int x3)] [] S I J 0 0 := by
  intro f
  induction f with
  | zero => intro x2 x3 I h; exact h.elim
  | succ n ih =>
    intro x2 x3 I h
    replace h : (((I (3 + 3 * t) 3) ≤ x3 → (K128 x2 I)) ∧ (¬ (I (3 + 3 * t) 3) ≤ x3 → ((10 ≤ x3 → (K128 x2 I)) ∧ (¬ 10 ≤ x3 → (vp_in x3 10 ∧ ((¬ (I (5 + 3 * t) (x3).toNatClampNeg) = 0 → (vp_in x3 10 ∧ (∀ I10 : QI, I10 = q_u2 I (5 + 3 * t) (x3).toNatClampNeg 1 → (∀ v11 : Int32, v11 = (x3 + 1) → (wX5_spread_63 t a1 K128 post n x2 v11 I10))))) ∧ ((I (5 + 3 * t) (x3).toNatClampNeg) = 0 → (wX5_isStep t x3 I (fun r12 => ((r12 = 0 → (vp_in x3 10 ∧ (∀ I13 : QI, I13 = q_u2 I (5 + 3 * t) (x3).toNatClampNeg 0 → (∀ v14 : Int32, v14 = (x3 + 1) → (wX5_spread_63 t a1 K128 post n x2 v14 I13))))) ∧ (¬ r12 = 0 → (wX5_value t x3 0 I (fun r15 => (wX5_isReachedEnd t r15 (I (3 + 3 * t) 3) I (fun r16 => ((r16 = 0 → (vp_in x3 10 ∧ (∀ I17 : QI, I17 = q_u2 I (5 + 3 * t) (x3).toNatClampNeg 0 → (∀ v18 : Int32, v18 = (x3 + 1) → (wX5_spread_63 t a1 K128 post n x2 v18 I17))))) ∧ (¬ r16 = 0 → (vp_in x3 10 ∧ (∀ I19 : QI, I19 = q_u2 I (5 + 3 * t) (x3).toNatClampNeg 1 → (∀ v20 : Int32, v20 = (x3 + 1) → (wX5_spread_63 t a1 K128 post n x2 v20 I19))))))))))))))))))))) := h
    refine V_iload_n dX5_spread_63 rfl rfl ?_
    refine V_aload_n dX5_spread_64 rfl rfl ?_
    refine V_geti dX5_spread_65 fl_RX5_23 (hS.tn ht 3 rfl) (hS.tk ht) rfl ?_
    refine V_icmp_ge 128 dX5_spread_68 rfl (fun hc => ?_) (fun hc => ?_)
    · replace h := h.1 hc
      refine V_sub (lo2 := [(0, .ref (3 + 3 * t)), (2, .int x2)]) [0, 1] rfl ?_
      exact hK128 _ _ h
    · replace h := h.2 hc
      refine V_iload_n dX5_spread_71 rfl rfl ?_
      refine V_bipush (v := 10) dX5_spread_72 (by decide) ?_
      refine V_icmp_ge 128 dX5_spread_74 rfl (fun hc => ?_) (fun hc => ?_)
      · replace h := h.1 hc
        refine V_sub (lo2 := [(0, .ref (3 + 3 * t)), (2, .int x2)]) [0, 1] rfl ?_
        exact hK128 _ _ h
      · replace h := h.2 hc
        refine V_aload_n dX5_spread_77 rfl rfl ?_
        refine V_getr dX5_spread_78 fl_RX5_15 (hS.tn ht 3 rfl) (hS.tk ht) rfl (hS.trb ht) ?_
        refine V_iload_n dX5_spread_81 rfl rfl ?_
        refine V_aload_n dX5_spread_82 rfl rfl ?_
        refine V_getr dX5_spread_83 fl_RX5_15 (hS.tn ht 3 rfl) (hS.tk ht) rfl (hS.trb ht) ?_
        refine V_iload_n dX5_spread_86 rfl rfl ?_
        obtain ⟨hb, h⟩ := h
        refine V_zald dX5_spread_87 (hS.tn ht 5 rfl) (hS.tbk ht) (by rw [(hS.tbz ht)]; exact hb) ?_
        refine V_if_ne 116 dX5_spread_88 rfl (fun hc => ?_) (fun hc => ?_)
        · replace h := h.1 hc
          refine V_iconst (v := 1) dX5_spread_116 (by decide) ?_
          refine V_goto 121 dX5_spread_117 rfl ?_
          obtain ⟨hb, h⟩ := h
          refine V_zast dX5_spread_121 (hS.tn ht 5 rfl) (hS.tbk ht) (by rw [(hS.tbz ht)]; exact hb) (q_vz (by decide)) ?_
          refine V_memI (fun I10 e_I10 => ?_)
          replace h := h I10 e_I10
          obtain ⟨v11, e_v11⟩ : ∃ z : Int32, z = (x3 + 1) := ⟨_, rfl⟩
          replace h := h v11 e_v11
          refine V_iinc (lo2 := [(3, .int v11), (0, .ref (3 + 3 * t)), (2, .int x2)]) 2 dX5_spread_122 rfl (v := v11) (by rw [e_v11]; first | done | rfl) (by decide) rfl ?_
          refine V_goto 63 dX5_spread_125 rfl ?_
          refine V_sub (lo2 := [(0, .ref (3 + 3 * t)), (2, .int x2), (3, .int v11)]) [1, 2, 0] rfl ?_
          exact ih _ _ _ h
        · replace h := h.2 hc
          refine V_aload_n dX5_spread_91 rfl rfl ?_
          refine V_iload_n dX5_spread_92 rfl rfl ?_
          refine V_callVi (st := [.int x3, .ref (5 + 3 * t)]) [.int x3] dX5_spread_93 ok_mX5_isStep rfl ml_RX5_55 in_mX5_isStep se_mX5_isStep (hS.tn ht 3 rfl) (hS.tk ht) (by decide) rfl (Nat.le_of_ble_eq_true rfl) (by decide) (by decide) (by decide) (s_mX5_isStep hS ht h) (fun r12 I9 J9 h => ?_)
          obtain ⟨rfl, rfl, h⟩ := h
          refine V_if_eq 120 dX5_spread_96 rfl (fun hc => ?_) (fun hc => ?_)
          · replace h := h.1 hc
            refine V_iconst (v := 0) dX5_spread_120 (by decide) ?_
            obtain ⟨hb, h⟩ := h
            refine V_zast dX5_spread_121 (hS.tn ht 5 rfl) (hS.tbk ht) (by rw [(hS.tbz ht)]; exact hb) (q_vz (by decide)) ?_
            refine V_memI (fun I13 e_I13 => ?_)
            replace h := h I13 e_I13
            obtain ⟨v14, e_v14⟩ : ∃ z : Int32, z = (x3 + 1) := ⟨_, rfl⟩
            replace h := h v14 e_v14
            refine V_iinc (lo2 := [(3, .int v14), (0, .ref (3 + 3 * t)), (2, .int x2)]) 2 dX5_spread_122 rfl (v := v14) (by rw [e_v14]; first | done | rfl) (by decide) rfl ?_
            refine V_goto 63 dX5_spread_125 rfl ?_
            refine V_sub (lo2 := [(0, .ref (3 + 3 * t)), (2, .int x2), (3, .int v14)]) [1, 2, 0] rfl ?_
            exact ih _ _ _ h
          · replace h := h.2 hc
            refine V_aload_n dX5_spread_99 rfl rfl ?_
            refine V_aload_n dX5_spread_100 rfl rfl ?_
            refine V_iload_n dX5_spread_101 rfl rfl ?_
            refine V_iconst (v := 0) dX5_spread_102 (by decide) ?_
            refine V_callVi (st := [.ref (3 + 3 * t), .int x3, .ref (5 + 3 * t)]) [.int x3, .int 0] dX5_spread_103 ok_mX5_value rfl ml_RX5_34 in_mX5_value se_mX5_value (hS.tn ht 3 rfl) (hS.tk ht) (by decide) rfl (Nat.le_of_ble_eq_true rfl) (by decide) (by decide) (by decide) (s_mX5_value hS ht h) (fun r15 I9 J9 h => ?_)
            obtain ⟨rfl, rfl, h⟩ := h
            refine V_aload_n dX5_spread_106 rfl rfl ?_
            refine V_geti dX5_spread_107 fl_RX5_23 (hS.tn ht 3 rfl) (hS.tk ht) rfl ?_
            refine V_callVi (st := [.int x3, .ref (5 + 3 * t)]) [.int r15, .int (I (3 + 3 * t) 3)] dX5_spread_110 ok_mX5_isReachedEnd rfl ml_RX5_58 in_mX5_isReachedEnd se_mX5_isReachedEnd (hS.tn ht 3 rfl) (hS.tk ht) (by decide) rfl (Nat.le_of_ble_eq_true rfl) (by decide) (by decide) (by decide) (s_mX5_isReachedEnd hS ht h) (fun r16 I9 J9 h => ?_)
            obtain ⟨rfl, rfl, h⟩ := h
            refine V_if_eq 120 dX5_spread_113 rfl (fun hc => ?_) (fun hc => ?_)
            · replace h := h.1 hc
              refine V_iconst (v := 0) dX5_spread_120 (by decide) ?_
              obtain ⟨hb, h⟩ := h
              refine V_zast dX5_spread_121 (hS.tn ht 5 rfl) (hS.tbk ht) (by rw [(hS.tbz ht)]; exact hb) (q_vz (by decide)) ?_
              refine V_memI (fun I17 e_I17 => ?_)
              replace h := h I17 e_I17
              obtain ⟨v18, e_v18⟩ : ∃ z : Int32, z = (x3 + 1) := ⟨_, rfl⟩
              replace h := h v18 e_v18
              refine V_iinc (lo2 := [(3, .int v18), (0, .ref (3 + 3 * t)), (2, .int x2)]) 2 dX5_spread_122 rfl (v := v18) (by rw [e_v18]; first | done | rfl) (by decide) rfl ?_
              refine V_goto 63 dX5_spread_125 rfl ?_
              refine V_sub (lo2 := [(0, .ref (3 + 3 * t)), (2, .int x2), (3, .int v18)]) [1, 2, 0] rfl ?_
              exact ih _ _ _ h
            · replace h := h.2 hc
              refine V_iconst (v := 1) dX5_spread_116 (by decide) ?_
              refine V_goto 121 dX5_spread_117 rfl ?_
              obtain ⟨hb, h⟩ := h
              refine V_zast dX5_spread_121 (hS.tn ht 5 rfl) (hS.tbk ht) (by rw [(hS.tbz ht)]; exact hb) (q_vz (by decide)) ?_
              refine V_memI (fun I19 e_I19 => ?_)
              replace h := h I19 e_I19
              obtain ⟨v20, e_v20⟩ : ∃ z : Int32, z = (x3 + 1) := ⟨_, rfl⟩
              replace h := h v20 e_v20
              refine V_iinc (lo2 := [(3, .int v20), (0, .ref (3 + 3 * t)), (2, .int x2)]) 2 dX5_spread_122 rfl (v := v20) (by rw [e_v20]; first | done | rfl) (by decide) rfl ?_
              refine V_goto 63 dX5_spread_125 rfl ?_
              refine V_sub (lo2 := [(0, .ref (3 + 3 * t)), (2, .int x2), (3, .int v20)]) [1, 2, 0] rfl ?_
              exact ih _ _ _ h
def wX5_spread_53 (t : Nat) (a1 : Int32) (post : QI → Prop) : Nat → Int32 → QI → Prop
  | 0, _, _ => False
  | n + 1, x2, I => (((I (3 + 3 * t) 3) ≤ x2 → post I) ∧ (¬ (I (3 + 3 * t) 3) ≤ x2 → (∃ f : Nat, wX5_spread_63 t a1 (fun u21 I22 => (∀ v23 : Int32, v23 = (u21 + 1) → (wX5_spread_53 t a1 post n v23 I22))) post f x2 0 I)))
set_option maxRecDepth 100000 in
set_option maxHeartbeats 4000000 in
theorem swX5_spread_53 {X : QX} {S : QS} {t : Nat} {a1 : Int32} {J : QJ} {post : QI → Prop} (hS : Sh S) (ht : t < 4) : ∀ (f : Nat) (x2 : Int32) (I : QI), wX5_spread_53 t a1 post f x2 I → V X mX5_spread 2 0 0 (q_Pv S (fun I2 J2 => J = J2 ∧ post I2)) 53 [(0, .ref (3 + 3 * t)), (2, .int x2)] [] S I J 0 0 := by
  intro f
  induction f with
  | zero => intro x2 I h; exact h.elim
  | succ n ih =>
    intro x2 I h
    replace h : (((I (3 + 3 * t) 3) ≤ x2 → post I) ∧ (¬ (I (3 + 3 * t) 3) ≤ x2 → (∃ f : Nat, wX5_spread_63 t a1 (fun u21 I22 => (∀ v23 : Int32, v23 = (u21 + 1) → (wX5_spread_53 t a1 post n v23 I22))) post f x2 0 I))) := h
    refine V_iload_n dX5_spread_53 rfl rfl ?_
    refine V_aload_n dX5_spread_54 rfl rfl ?_
    refine V_geti dX5_spread_55 fl_RX5_23 (hS.tn ht 3 rfl) (hS.tk ht) rfl ?_
    refine V_icmp_ge 134 dX5_spread_58 rfl (fun hc => ?_) (fun hc => ?_)
    · replace h := h.1 hc
      exact V_vret dX5_spread_134 rfl (by decide) (by decide) ⟨rfl, rfl, rfl, h⟩
    · replace h := h.2 hc
      refine V_iconst (v := 0) dX5_spread_61 (by decide) ?_
      refine V_istore_n (lo2 := [(3, .int 0), (0, .ref (3 + 3 * t)), (2, .int x2)]) dX5_spread_62 rfl (by decide) rfl ?_
      refine V_sub (lo2 := [(0, .ref (3 + 3 * t)), (2, .int x2), (3, .int 0)]) [1, 2, 0] rfl ?_
      obtain ⟨f9, h⟩ := h
      refine swX5_spread_63 hS ht ?_ f9 _ _ _ h
      · intro u21 I22 h
        obtain ⟨v23, e_v23⟩ : ∃ z : Int32, z = (u21 + 1) := ⟨_, rfl⟩
        replace h := h v23 e_v23
        refine V_iinc (lo2 := [(2, .int v23), (0, .ref (3 + 3 * t))]) 1 dX5_spread_128 rfl (v := v23) (by rw [e_v23]; first | done | rfl) (by decide) rfl ?_
        refine V_goto 53 dX5_spread_131 rfl ?_
        refine V_sub (lo2 := [(0, .ref (3 + 3 * t)), (2, .int v23)]) [1, 0] rfl ?_
        exact ih _ _ h
def wX5_spread (t : Nat) (a1 : Int32) (I : QI) (post : QI → Prop) : Prop := (∃ f : Nat, wX5_spread_2 t a1 (fun I9 => (∃ f : Nat, wX5_spread_53 t a1 post f 0 I9)) post f 0 I)
set_option maxRecDepth 100000 in
set_option maxHeartbeats 4000000 in
theorem s_mX5_spread {X : QX} {S : QS} {t : Nat} {a1 : Int32} {I : QI} {J : QJ} {post : QI → Prop} (hS : Sh S) (ht : t < 4) (h : wX5_spread t a1 I post) : CX X mX5_spread 2 0 0 [.ref (3 + 3 * t), .int a1] S I J (q_Pv S (fun I2 J2 => J = J2 ∧ post I2)) := by
  refine CX.of (lo := [(0, .ref (3 + 3 * t)), (1, .int a1)]) ok_mX5_spread rfl (Nat.le_of_ble_eq_true rfl) rfl ?_
  replace h : (∃ f : Nat, wX5_spread_2 t a1 (fun I9 => (∃ f : Nat, wX5_spread_53 t a1 post f 0 I9)) post f 0 I) := h
  refine V_iconst (v := 0) dX5_spread_0 (by decide) ?_
  refine V_istore_n (lo2 := [(2, .int 0), (0, .ref (3 + 3 * t)), (1, .int a1)]) dX5_spread_1 rfl (by decide) rfl ?_
  refine V_sub (lo2 := [(0, .ref (3 + 3 * t)), (1, .int a1), (2, .int 0)]) [1, 2, 0] rfl ?_
  obtain ⟨f9, h⟩ := h
  refine swX5_spread_2 hS ht ?_ f9 _ _ h
  · intro I9 h
    refine V_iconst (v := 0) dX5_spread_51 (by decide) ?_
    refine V_istore_n (lo2 := [(2, .int 0), (0, .ref (3 + 3 * t))]) dX5_spread_52 rfl (by decide) rfl ?_
    refine V_sub (lo2 := [(0, .ref (3 + 3 * t)), (2, .int 0)]) [1, 0] rfl ?_
    obtain ⟨f9, h⟩ := h
    refine swX5_spread_53 hS ht f9 _ _ h
def wX5_pathPairs_4 (t : Nat) (post : Int32 → QI → Prop) : Nat → Int32 → Int32 → QI → Prop
  | 0, _, _, _ => False
  | n + 1, x1, x2, I => (((I (3 + 3 * t) 3) ≤ x2 → post x1 I) ∧ (¬ (I (3 + 3 * t) 3) ≤ x2 → (wX5_isNewStart t x2 I (fun r1 => ((r1 = 0 → (∀ v2 : Int32, v2 = (x2 + 1) → (wX5_pathPairs_4 t post n x1 v2 I))) ∧ (¬ r1 = 0 → (wX5_value t x2 0 I (fun r3 => (wX5_spread t r3 I (fun I4 => (wX5_countReachedEnds t I4 (fun r5 => (∀ v6 : Int32, v6 = (x1 + r5) → (∀ v7 : Int32, v7 = (x2 + 1) → (wX5_pathPairs_4 t post n v6 v7 I4)))))))))))))))
set_option maxRecDepth 100000 in
set_option maxHeartbeats 4000000 in
theorem swX5_pathPairs_4 {X : QX} {S : QS} {t : Nat} {J : QJ} {post : Int32 → QI → Prop} (hS : Sh S) (ht : t < 4) : ∀ (f : Nat) (x1 : Int32) (x2 : Int32) (I : QI), wX5_pathPairs_4 t post f x1 x2 I → V X mX5_pathPairs 3 0 0 (q_Pi S (fun r I2 J2 => J = J2 ∧ post r I2)) 4 [(0, .ref (3 + 3 * t)), (1, .int x1), (2, .int x2)] [] S I J 0 0 := by
  intro f
  induction f with
  | zero => intro x1 x2 I h; exact h.elim
  | succ n ih =>
    intro x1 x2 I h
    replace h : (((I (3 + 3 * t) 3) ≤ x2 → post x1 I) ∧ (¬ (I (3 + 3 * t) 3) ≤ x2 → (wX5_isNewStart t x2 I (fun r1 => ((r1 = 0 → (∀ v2 : Int32, v2 = (x2 + 1) → (wX5_pathPairs_4 t post n x1 v2 I))) ∧ (¬ r1 = 0 → (wX5_value t x2 0 I (fun r3 => (wX5_spread t r3 I (fun I4 => (wX5_countReachedEnds t I4 (fun r5 => (∀ v6 : Int32, v6 = (x1 + r5) → (∀ v7 : Int32, v7 = (x2 + 1) → (wX5_pathPairs_4 t post n v6 v7 I4))))))))))))))) := h
    refine V_iload_n dX5_pathPairs_4 rfl rfl ?_
    refine V_aload_n dX5_pathPairs_5 rfl rfl ?_
    refine V_geti dX5_pathPairs_6 fl_RX5_23 (hS.tn ht 3 rfl) (hS.tk ht) rfl ?_
    refine V_icmp_ge 43 dX5_pathPairs_9 rfl (fun hc => ?_) (fun hc => ?_)
    · replace h := h.1 hc
      refine V_iload_n dX5_pathPairs_43 rfl rfl ?_
      exact V_iret dX5_pathPairs_44 rfl (by decide) (by decide) ⟨_, rfl, rfl, rfl, h⟩
    · replace h := h.2 hc
      refine V_aload_n dX5_pathPairs_12 rfl rfl ?_
      refine V_iload_n dX5_pathPairs_13 rfl rfl ?_
      refine V_callVi (st := []) [.int x2] dX5_pathPairs_14 ok_mX5_isNewStart rfl ml_RX5_44 in_mX5_isNewStart se_mX5_isNewStart (hS.tn ht 3 rfl) (hS.tk ht) (by decide) rfl (Nat.le_of_ble_eq_true rfl) (by decide) (by decide) (by decide) (s_mX5_isNewStart hS ht h) (fun r1 I9 J9 h => ?_)
      obtain ⟨rfl, rfl, h⟩ := h
      refine V_if_eq 37 dX5_pathPairs_17 rfl (fun hc => ?_) (fun hc => ?_)
      · replace h := h.1 hc
        obtain ⟨v2, e_v2⟩ : ∃ z : Int32, z = (x2 + 1) := ⟨_, rfl⟩
        replace h := h v2 e_v2
        refine V_iinc (lo2 := [(2, .int v2), (0, .ref (3 + 3 * t)), (1, .int x1)]) 2 dX5_pathPairs_37 rfl (v := v2) (by rw [e_v2]; first | done | rfl) (by decide) rfl ?_
        refine V_goto 4 dX5_pathPairs_40 rfl ?_
        refine V_sub (lo2 := [(0, .ref (3 + 3 * t)), (1, .int x1), (2, .int v2)]) [1, 2, 0] rfl ?_
        exact ih _ _ _ h
      · replace h := h.2 hc
        refine V_aload_n dX5_pathPairs_20 rfl rfl ?_
        refine V_aload_n dX5_pathPairs_21 rfl rfl ?_
        refine V_iload_n dX5_pathPairs_22 rfl rfl ?_
        refine V_iconst (v := 0) dX5_pathPairs_23 (by decide) ?_
        refine V_callVi (st := [.ref (3 + 3 * t)]) [.int x2, .int 0] dX5_pathPairs_24 ok_mX5_value rfl ml_RX5_34 in_mX5_value se_mX5_value (hS.tn ht 3 rfl) (hS.tk ht) (by decide) rfl (Nat.le_of_ble_eq_true rfl) (by decide) (by decide) (by decide) (s_mX5_value hS ht h) (fun r3 I9 J9 h => ?_)
        obtain ⟨rfl, rfl, h⟩ := h
        refine V_callVv (st := []) [.int r3] dX5_pathPairs_27 ok_mX5_spread rfl ml_RX5_47 in_mX5_spread se_mX5_spread (hS.tn ht 3 rfl) (hS.tk ht) (by decide) rfl (Nat.le_of_ble_eq_true rfl) (by decide) (by decide) (by decide) (s_mX5_spread hS ht h) (fun I4 J9 h => ?_)
        obtain ⟨rfl, h⟩ := h
        refine V_iload_n dX5_pathPairs_30 rfl rfl ?_
        refine V_aload_n dX5_pathPairs_31 rfl rfl ?_
        refine V_callVi (st := [.int x1]) [] dX5_pathPairs_32 ok_mX5_countReachedEnds rfl ml_RX5_51 in_mX5_countReachedEnds se_mX5_countReachedEnds (hS.tn ht 3 rfl) (hS.tk ht) (by decide) rfl (Nat.le_of_ble_eq_true rfl) (by decide) (by decide) (by decide) (s_mX5_countReachedEnds hS ht h) (fun r5 I9 J9 h => ?_)
        obtain ⟨rfl, rfl, h⟩ := h
        refine V_iadd dX5_pathPairs_35 ?_
        refine V_topi (fun v6 e_v6 => ?_)
        replace h := h v6 e_v6
        refine V_istore_n (lo2 := [(1, .int v6), (0, .ref (3 + 3 * t)), (2, .int x2)]) dX5_pathPairs_36 rfl (by decide) rfl ?_
        obtain ⟨v7, e_v7⟩ : ∃ z : Int32, z = (x2 + 1) := ⟨_, rfl⟩
        replace h := h v7 e_v7
        refine V_iinc (lo2 := [(2, .int v7), (1, .int v6), (0, .ref (3 + 3 * t))]) 2 dX5_pathPairs_37 rfl (v := v7) (by rw [e_v7]; first | done | rfl) (by decide) rfl ?_
        refine V_goto 4 dX5_pathPairs_40 rfl ?_
        refine V_sub (lo2 := [(0, .ref (3 + 3 * t)), (1, .int v6), (2, .int v7)]) [2, 1, 0] rfl ?_
        exact ih _ _ _ h
def wX5_pathPairs (t : Nat) (I : QI) (post : Int32 → QI → Prop) : Prop := (∃ f : Nat, wX5_pathPairs_4 t post f 0 0 I)
set_option maxRecDepth 100000 in
set_option maxHeartbeats 4000000 in
theorem s_mX5_pathPairs {X : QX} {S : QS} {t : Nat} {I : QI} {J : QJ} {post : Int32 → QI → Prop} (hS : Sh S) (ht : t < 4) (h : wX5_pathPairs t I post) : CX X mX5_pathPairs 3 0 0 [.ref (3 + 3 * t)] S I J (q_Pi S (fun r I2 J2 => J = J2 ∧ post r I2)) := by
  refine CX.of (lo := [(0, .ref (3 + 3 * t))]) ok_mX5_pathPairs rfl (Nat.le_of_ble_eq_true rfl) rfl ?_
  replace h : (∃ f : Nat, wX5_pathPairs_4 t post f 0 0 I) := h
  refine V_iconst (v := 0) dX5_pathPairs_0 (by decide) ?_
  refine V_istore_n (lo2 := [(1, .int 0), (0, .ref (3 + 3 * t))]) dX5_pathPairs_1 rfl (by decide) rfl ?_
  refine V_iconst (v := 0) dX5_pathPairs_2 (by decide) ?_
  refine V_istore_n (lo2 := [(2, .int 0), (1, .int 0), (0, .ref (3 + 3 * t))]) dX5_pathPairs_3 rfl (by decide) rfl ?_
  refine V_sub (lo2 := [(0, .ref (3 + 3 * t)), (1, .int 0), (2, .int 0)]) [2, 1, 0] rfl ?_
  obtain ⟨f9, h⟩ := h
  refine swX5_pathPairs_4 hS ht f9 _ _ _ h
