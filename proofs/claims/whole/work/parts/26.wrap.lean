def wL_table (a1 : Int32) (I : QI) (J : QJ) (post : Int32 → QI → QJ → Prop) : Prop := (wX7_table a1 I (fun r2 I1 => (vp_in 0 1 ∧ (∀ J4 : QJ, J4 = q_u2 J 79 (0 : Int32).toNatClampNeg ((r2).toInt64) → post 0 I1 J4))) (fun E I3 => ((E = "java/lang/IllegalArgumentException" ∧ post 1 I3 J) ∨ (E = "java/lang/IllegalStateException" ∧ post 2 I3 J))))
set_option maxRecDepth 100000 in
set_option maxHeartbeats 4000000 in
theorem s_mL_table {X : QX} {S : QS} {a1 : Int32} {I : QI} {J : QJ} {post : Int32 → QI → QJ → Prop} (hS : Sh S) (h : wL_table a1 I J post) : CX X mL_table 3 1 6 [.ref 0, .int a1, .ref 79] S I J (q_Pi S (fun r I2 J2 => post r I2 J2)) := by
  refine CX.of (lo := [(0, .ref 0), (1, .int a1), (2, .ref 79)]) ok_mL_table rfl (Nat.le_of_ble_eq_true rfl) rfl ?_
  replace h : (wX7_table a1 I (fun r2 I1 => (vp_in 0 1 ∧ (∀ J4 : QJ, J4 = q_u2 J 79 (0 : Int32).toNatClampNeg ((r2).toInt64) → post 0 I1 J4))) (fun E I3 => ((E = "java/lang/IllegalArgumentException" ∧ post 1 I3 J) ∨ (E = "java/lang/IllegalStateException" ∧ post 2 I3 J)))) := h
  refine V_aload_n dL_table_0 rfl rfl ?_
  refine V_iconst (v := 0) dL_table_1 (by decide) ?_
  refine V_aload_n dL_table_2 rfl rfl ?_
  refine V_iload_n dL_table_3 rfl rfl ?_
  refine V_callVx (st := [.int 0, .ref 79]) [.int a1] dL_table_4 ok_mX7_table rfl ml_RL_7 in_mX7_table se_mX7_table (hS.n 0 rfl) (hS.k 0 7 rfl) (by decide) rfl (Nat.le_of_ble_eq_true rfl) (by decide) (by decide) (by decide) (s_mX7_table hS h) (fun r2 I1 J9 h => ?_) (fun E I3 J9 h => ?_)
  · obtain ⟨rfl, h⟩ := h
    refine V_i2l dL_table_7 ?_
    obtain ⟨hb, h⟩ := h
    refine V_last dL_table_8 (hS.n 79 rfl) (hS.k 79 10 rfl) (by rw [(hS.z 79 1 rfl)]; exact hb) ?_
    refine V_memJ (fun J4 e_J4 => ?_)
    replace h := h J4 e_J4
    refine V_goto 18 dL_table_9 rfl ?_
    refine V_iconst (v := 0) dL_table_18 (by decide) ?_
    exact V_iret dL_table_19 rfl (by decide) (by decide) ⟨_, rfl, rfl, h⟩
  · obtain ⟨rfl, h⟩ := h
    rcases h with ⟨rfl, h⟩ | ⟨rfl, h⟩
    · refine VT_catch (i := 3) (lo2 := [(0, .ref 0), (1, .int a1), (2, .ref 79)]) [] ⟨0, 9, 12, 13⟩ [⟨0, 9, 15, 15⟩] rfl (by decide) (fun z hz => nomatch hz) (by decide) (by decide) cl_RL_13 dL_table_12 (Or.inr ⟨_, rfl, rfl, rfl⟩) (by decide) rfl ?_
      refine V_iconst (v := 1) dL_table_13 (by decide) ?_
      exact V_iret dL_table_14 rfl (by decide) (by decide) ⟨_, rfl, rfl, h⟩
    · refine VT_catch (i := 3) (lo2 := [(0, .ref 0), (1, .int a1), (2, .ref 79)]) [⟨0, 9, 12, 13⟩] ⟨0, 9, 15, 15⟩ [] rfl (by decide) (fun z hz => by simp only [List.mem_cons, List.not_mem_nil, or_false] at hz; rcases hz with rfl <;> first | exact Or.inr ⟨by decide, "java/lang/IllegalArgumentException", by decide, by decide, cl_RL_13⟩) (by decide) (by decide) cl_RL_15 dL_table_15 (Or.inr ⟨_, rfl, rfl, rfl⟩) (by decide) rfl ?_
      refine V_iconst (v := 2) dL_table_16 (by decide) ?_
      exact V_iret dL_table_17 rfl (by decide) (by decide) ⟨_, rfl, rfl, h⟩
def wL_add (a1 : Int32) (a2 : Int32) (a3 : Int32) (a4 : Int32) (I : QI) (J : QJ) (post : Int32 → QI → QJ → Prop) : Prop := (wX7_add a1 a2 a3 a4 I (fun r2 I1 => (vp_in 0 1 ∧ (∀ J4 : QJ, J4 = q_u2 J 79 (0 : Int32).toNatClampNeg ((r2).toInt64) → post 0 I1 J4))) (fun E I3 => ((E = "java/lang/IndexOutOfBoundsException" ∧ post 1 I3 J) ∨ (E = "java/lang/IllegalArgumentException" ∧ post 2 I3 J) ∨ (E = "java/lang/IllegalStateException" ∧ post 3 I3 J))))
set_option maxRecDepth 100000 in
set_option maxHeartbeats 4000000 in
theorem s_mL_add {X : QX} {S : QS} {a1 : Int32} {a2 : Int32} {a3 : Int32} {a4 : Int32} {I : QI} {J : QJ} {post : Int32 → QI → QJ → Prop} (hS : Sh S) (h : wL_add a1 a2 a3 a4 I J post) : CX X mL_add 4 1 6 [.ref 0, .int a1, .int a2, .int a3, .int a4, .ref 79] S I J (q_Pi S (fun r I2 J2 => post r I2 J2)) := by
  refine CX.of (lo := [(0, .ref 0), (1, .int a1), (2, .int a2), (3, .int a3), (4, .int a4), (5, .ref 79)]) ok_mL_add rfl (Nat.le_of_ble_eq_true rfl) rfl ?_
  replace h : (wX7_add a1 a2 a3 a4 I (fun r2 I1 => (vp_in 0 1 ∧ (∀ J4 : QJ, J4 = q_u2 J 79 (0 : Int32).toNatClampNeg ((r2).toInt64) → post 0 I1 J4))) (fun E I3 => ((E = "java/lang/IndexOutOfBoundsException" ∧ post 1 I3 J) ∨ (E = "java/lang/IllegalArgumentException" ∧ post 2 I3 J) ∨ (E = "java/lang/IllegalStateException" ∧ post 3 I3 J)))) := h
  refine V_aload dL_add_0 rfl ?_
  refine V_iconst (v := 0) dL_add_2 (by decide) ?_
  refine V_aload_n dL_add_3 rfl rfl ?_
  refine V_iload_n dL_add_4 rfl rfl ?_
  refine V_iload_n dL_add_5 rfl rfl ?_
  refine V_iload_n dL_add_6 rfl rfl ?_
  refine V_iload dL_add_7 rfl ?_
  refine V_callVx (st := [.int 0, .ref 79]) [.int a1, .int a2, .int a3, .int a4] dL_add_9 ok_mX7_add rfl ml_RL_17 in_mX7_add se_mX7_add (hS.n 0 rfl) (hS.k 0 7 rfl) (by decide) rfl (Nat.le_of_ble_eq_true rfl) (by decide) (by decide) (by decide) (s_mX7_add hS h) (fun r2 I1 J9 h => ?_) (fun E I3 J9 h => ?_)
  · obtain ⟨rfl, h⟩ := h
    refine V_i2l dL_add_12 ?_
    obtain ⟨hb, h⟩ := h
    refine V_last dL_add_13 (hS.n 79 rfl) (hS.k 79 10 rfl) (by rw [(hS.z 79 1 rfl)]; exact hb) ?_
    refine V_memJ (fun J4 e_J4 => ?_)
    replace h := h J4 e_J4
    refine V_goto 29 dL_add_14 rfl ?_
    refine V_iconst (v := 0) dL_add_29 (by decide) ?_
    exact V_iret dL_add_30 rfl (by decide) (by decide) ⟨_, rfl, rfl, h⟩
  · obtain ⟨rfl, h⟩ := h
    rcases h with ⟨rfl, h⟩ | ⟨rfl, h⟩ | ⟨rfl, h⟩
    · refine VT_catch (i := 6) (lo2 := [(0, .ref 0), (1, .int a1), (2, .int a2), (3, .int a3), (4, .int a4), (5, .ref 79)]) [] ⟨0, 14, 17, 21⟩ [⟨0, 14, 21, 13⟩, ⟨0, 14, 25, 15⟩] rfl (by decide) (fun z hz => nomatch hz) (by decide) (by decide) cl_RL_21 dL_add_17 (Or.inl ⟨rfl, rfl⟩) (by decide) rfl ?_
      refine V_iconst (v := 1) dL_add_19 (by decide) ?_
      exact V_iret dL_add_20 rfl (by decide) (by decide) ⟨_, rfl, rfl, h⟩
    · refine VT_catch (i := 6) (lo2 := [(0, .ref 0), (1, .int a1), (2, .int a2), (3, .int a3), (4, .int a4), (5, .ref 79)]) [⟨0, 14, 17, 21⟩] ⟨0, 14, 21, 13⟩ [⟨0, 14, 25, 15⟩] rfl (by decide) (fun z hz => by simp only [List.mem_cons, List.not_mem_nil, or_false] at hz; rcases hz with rfl <;> first | exact Or.inr ⟨by decide, "java/lang/IndexOutOfBoundsException", by decide, by decide, cl_RL_21⟩) (by decide) (by decide) cl_RL_13 dL_add_21 (Or.inl ⟨rfl, rfl⟩) (by decide) rfl ?_
      refine V_iconst (v := 2) dL_add_23 (by decide) ?_
      exact V_iret dL_add_24 rfl (by decide) (by decide) ⟨_, rfl, rfl, h⟩
    · refine VT_catch (i := 6) (lo2 := [(0, .ref 0), (1, .int a1), (2, .int a2), (3, .int a3), (4, .int a4), (5, .ref 79)]) [⟨0, 14, 17, 21⟩, ⟨0, 14, 21, 13⟩] ⟨0, 14, 25, 15⟩ [] rfl (by decide) (fun z hz => by simp only [List.mem_cons, List.not_mem_nil, or_false] at hz; rcases hz with rfl | rfl <;> first | exact Or.inr ⟨by decide, "java/lang/IndexOutOfBoundsException", by decide, by decide, cl_RL_21⟩ | exact Or.inr ⟨by decide, "java/lang/IllegalArgumentException", by decide, by decide, cl_RL_13⟩) (by decide) (by decide) cl_RL_15 dL_add_25 (Or.inl ⟨rfl, rfl⟩) (by decide) rfl ?_
      refine V_iconst (v := 3) dL_add_27 (by decide) ?_
      exact V_iret dL_add_28 rfl (by decide) (by decide) ⟨_, rfl, rfl, h⟩
def wL_take (a1 : Int32) (a2 : Int32) (I : QI) (J : QJ) (post : Int32 → QI → QJ → Prop) : Prop := (wX7_take a1 a2 I (fun r2 I1 => (vp_in 0 1 ∧ (∀ J4 : QJ, J4 = q_u2 J 79 (0 : Int32).toNatClampNeg ((r2).toInt64) → post 0 I1 J4))) (fun E I3 => ((E = "java/lang/IndexOutOfBoundsException" ∧ post 1 I3 J))))
set_option maxRecDepth 100000 in
set_option maxHeartbeats 4000000 in
theorem s_mL_take {X : QX} {S : QS} {a1 : Int32} {a2 : Int32} {I : QI} {J : QJ} {post : Int32 → QI → QJ → Prop} (hS : Sh S) (h : wL_take a1 a2 I J post) : CX X mL_take 2 1 6 [.ref 0, .int a1, .int a2, .ref 79] S I J (q_Pi S (fun r I2 J2 => post r I2 J2)) := by
  refine CX.of (lo := [(0, .ref 0), (1, .int a1), (2, .int a2), (3, .ref 79)]) ok_mL_take rfl (Nat.le_of_ble_eq_true rfl) rfl ?_
  replace h : (wX7_take a1 a2 I (fun r2 I1 => (vp_in 0 1 ∧ (∀ J4 : QJ, J4 = q_u2 J 79 (0 : Int32).toNatClampNeg ((r2).toInt64) → post 0 I1 J4))) (fun E I3 => ((E = "java/lang/IndexOutOfBoundsException" ∧ post 1 I3 J)))) := h
  refine V_aload_n dL_take_0 rfl rfl ?_
  refine V_iconst (v := 0) dL_take_1 (by decide) ?_
  refine V_aload_n dL_take_2 rfl rfl ?_
  refine V_iload_n dL_take_3 rfl rfl ?_
  refine V_iload_n dL_take_4 rfl rfl ?_
  refine V_callVx (st := [.int 0, .ref 79]) [.int a1, .int a2] dL_take_5 ok_mX7_take rfl ml_RL_23 in_mX7_take se_mX7_take (hS.n 0 rfl) (hS.k 0 7 rfl) (by decide) rfl (Nat.le_of_ble_eq_true rfl) (by decide) (by decide) (by decide) (s_mX7_take hS h) (fun r2 I1 J9 h => ?_) (fun E I3 J9 h => ?_)
  · obtain ⟨rfl, h⟩ := h
    refine V_i2l dL_take_8 ?_
    obtain ⟨hb, h⟩ := h
    refine V_last dL_take_9 (hS.n 79 rfl) (hS.k 79 10 rfl) (by rw [(hS.z 79 1 rfl)]; exact hb) ?_
    refine V_memJ (fun J4 e_J4 => ?_)
    replace h := h J4 e_J4
    refine V_goto 17 dL_take_10 rfl ?_
    refine V_iconst (v := 0) dL_take_17 (by decide) ?_
    exact V_iret dL_take_18 rfl (by decide) (by decide) ⟨_, rfl, rfl, h⟩
  · obtain ⟨rfl, h⟩ := h
    obtain ⟨rfl, h⟩ := h
    refine VT_catch (i := 4) (lo2 := [(0, .ref 0), (1, .int a1), (2, .int a2), (3, .ref 79)]) [] ⟨0, 10, 13, 21⟩ [] rfl (by decide) (fun z hz => nomatch hz) (by decide) (by decide) cl_RL_21 dL_take_13 (Or.inl ⟨rfl, rfl⟩) (by decide) rfl ?_
    refine V_iconst (v := 1) dL_take_15 (by decide) ?_
    exact V_iret dL_take_16 rfl (by decide) (by decide) ⟨_, rfl, rfl, h⟩
def wL_scan (a1 : Int32) (I : QI) (J : QJ) (post : Int32 → QI → QJ → Prop) : Prop := (wX7_scan a1 I (fun r2 I1 => (vp_in 0 1 ∧ (∀ J4 : QJ, J4 = q_u2 J 79 (0 : Int32).toNatClampNeg ((r2).toInt64) → post 0 I1 J4))) (fun E I3 => ((E = "java/lang/IndexOutOfBoundsException" ∧ post 1 I3 J) ∨ (E = "java/lang/IllegalStateException" ∧ post 2 I3 J))))
set_option maxRecDepth 100000 in
set_option maxHeartbeats 4000000 in
theorem s_mL_scan {X : QX} {S : QS} {a1 : Int32} {I : QI} {J : QJ} {post : Int32 → QI → QJ → Prop} (hS : Sh S) (h : wL_scan a1 I J post) : CX X mL_scan 4 1 6 [.ref 0, .int a1, .ref 79] S I J (q_Pi S (fun r I2 J2 => post r I2 J2)) := by
  refine CX.of (lo := [(0, .ref 0), (1, .int a1), (2, .ref 79)]) ok_mL_scan rfl (Nat.le_of_ble_eq_true rfl) rfl ?_
  replace h : (wX7_scan a1 I (fun r2 I1 => (vp_in 0 1 ∧ (∀ J4 : QJ, J4 = q_u2 J 79 (0 : Int32).toNatClampNeg ((r2).toInt64) → post 0 I1 J4))) (fun E I3 => ((E = "java/lang/IndexOutOfBoundsException" ∧ post 1 I3 J) ∨ (E = "java/lang/IllegalStateException" ∧ post 2 I3 J)))) := h
  refine V_aload_n dL_scan_0 rfl rfl ?_
  refine V_iconst (v := 0) dL_scan_1 (by decide) ?_
  refine V_aload_n dL_scan_2 rfl rfl ?_
  refine V_iload_n dL_scan_3 rfl rfl ?_
  refine V_callVx (st := [.int 0, .ref 79]) [.int a1] dL_scan_4 ok_mX7_scan rfl ml_RL_27 in_mX7_scan se_mX7_scan (hS.n 0 rfl) (hS.k 0 7 rfl) (by decide) rfl (Nat.le_of_ble_eq_true rfl) (by decide) (by decide) (by decide) (s_mX7_scan hS h) (fun r2 I1 J9 h => ?_) (fun E I3 J9 h => ?_)
  · obtain ⟨rfl, h⟩ := h
    refine V_i2l dL_scan_7 ?_
    obtain ⟨hb, h⟩ := h
    refine V_last dL_scan_8 (hS.n 79 rfl) (hS.k 79 10 rfl) (by rw [(hS.z 79 1 rfl)]; exact hb) ?_
    refine V_memJ (fun J4 e_J4 => ?_)
    replace h := h J4 e_J4
    refine V_goto 18 dL_scan_9 rfl ?_
    refine V_iconst (v := 0) dL_scan_18 (by decide) ?_
    exact V_iret dL_scan_19 rfl (by decide) (by decide) ⟨_, rfl, rfl, h⟩
  · obtain ⟨rfl, h⟩ := h
    rcases h with ⟨rfl, h⟩ | ⟨rfl, h⟩
    · refine VT_catch (i := 3) (lo2 := [(0, .ref 0), (1, .int a1), (2, .ref 79)]) [] ⟨0, 9, 12, 21⟩ [⟨0, 9, 15, 15⟩] rfl (by decide) (fun z hz => nomatch hz) (by decide) (by decide) cl_RL_21 dL_scan_12 (Or.inr ⟨_, rfl, rfl, rfl⟩) (by decide) rfl ?_
      refine V_iconst (v := 1) dL_scan_13 (by decide) ?_
      exact V_iret dL_scan_14 rfl (by decide) (by decide) ⟨_, rfl, rfl, h⟩
    · refine VT_catch (i := 3) (lo2 := [(0, .ref 0), (1, .int a1), (2, .ref 79)]) [⟨0, 9, 12, 21⟩] ⟨0, 9, 15, 15⟩ [] rfl (by decide) (fun z hz => by simp only [List.mem_cons, List.not_mem_nil, or_false] at hz; rcases hz with rfl <;> first | exact Or.inr ⟨by decide, "java/lang/IndexOutOfBoundsException", by decide, by decide, cl_RL_21⟩) (by decide) (by decide) cl_RL_15 dL_scan_15 (Or.inr ⟨_, rfl, rfl, rfl⟩) (by decide) rfl ?_
      refine V_iconst (v := 2) dL_scan_16 (by decide) ?_
      exact V_iret dL_scan_17 rfl (by decide) (by decide) ⟨_, rfl, rfl, h⟩
def wL_filter (a1 : Int32) (a2 : Int32) (a3 : Int32) (a4 : Int32) (I : QI) (J : QJ) (post : Int32 → QI → QJ → Prop) : Prop := (wX7_filter a1 a2 a3 a4 I (fun r2 I1 => (vp_in 0 1 ∧ (∀ J4 : QJ, J4 = q_u2 J 79 (0 : Int32).toNatClampNeg ((r2).toInt64) → post 0 I1 J4))) (fun E I3 => ((E = "java/lang/IndexOutOfBoundsException" ∧ post 1 I3 J) ∨ (E = "java/lang/IllegalArgumentException" ∧ post 2 I3 J) ∨ (E = "java/lang/IllegalStateException" ∧ post 3 I3 J))))
set_option maxRecDepth 100000 in
set_option maxHeartbeats 4000000 in
theorem s_mL_filter {X : QX} {S : QS} {a1 : Int32} {a2 : Int32} {a3 : Int32} {a4 : Int32} {I : QI} {J : QJ} {post : Int32 → QI → QJ → Prop} (hS : Sh S) (h : wL_filter a1 a2 a3 a4 I J post) : CX X mL_filter 4 1 6 [.ref 0, .int a1, .int a2, .int a3, .int a4, .ref 79] S I J (q_Pi S (fun r I2 J2 => post r I2 J2)) := by
  refine CX.of (lo := [(0, .ref 0), (1, .int a1), (2, .int a2), (3, .int a3), (4, .int a4), (5, .ref 79)]) ok_mL_filter rfl (Nat.le_of_ble_eq_true rfl) rfl ?_
  replace h : (wX7_filter a1 a2 a3 a4 I (fun r2 I1 => (vp_in 0 1 ∧ (∀ J4 : QJ, J4 = q_u2 J 79 (0 : Int32).toNatClampNeg ((r2).toInt64) → post 0 I1 J4))) (fun E I3 => ((E = "java/lang/IndexOutOfBoundsException" ∧ post 1 I3 J) ∨ (E = "java/lang/IllegalArgumentException" ∧ post 2 I3 J) ∨ (E = "java/lang/IllegalStateException" ∧ post 3 I3 J)))) := h
  refine V_aload dL_filter_0 rfl ?_
  refine V_iconst (v := 0) dL_filter_2 (by decide) ?_
  refine V_aload_n dL_filter_3 rfl rfl ?_
  refine V_iload_n dL_filter_4 rfl rfl ?_
  refine V_iload_n dL_filter_5 rfl rfl ?_
  refine V_iload_n dL_filter_6 rfl rfl ?_
  refine V_iload dL_filter_7 rfl ?_
  refine V_callVx (st := [.int 0, .ref 79]) [.int a1, .int a2, .int a3, .int a4] dL_filter_9 ok_mX7_filter rfl ml_RL_30 in_mX7_filter se_mX7_filter (hS.n 0 rfl) (hS.k 0 7 rfl) (by decide) rfl (Nat.le_of_ble_eq_true rfl) (by decide) (by decide) (by decide) (s_mX7_filter hS h) (fun r2 I1 J9 h => ?_) (fun E I3 J9 h => ?_)
  · obtain ⟨rfl, h⟩ := h
    refine V_i2l dL_filter_12 ?_
    obtain ⟨hb, h⟩ := h
    refine V_last dL_filter_13 (hS.n 79 rfl) (hS.k 79 10 rfl) (by rw [(hS.z 79 1 rfl)]; exact hb) ?_
    refine V_memJ (fun J4 e_J4 => ?_)
    replace h := h J4 e_J4
    refine V_goto 29 dL_filter_14 rfl ?_
    refine V_iconst (v := 0) dL_filter_29 (by decide) ?_
    exact V_iret dL_filter_30 rfl (by decide) (by decide) ⟨_, rfl, rfl, h⟩
  · obtain ⟨rfl, h⟩ := h
    rcases h with ⟨rfl, h⟩ | ⟨rfl, h⟩ | ⟨rfl, h⟩
    · refine VT_catch (i := 6) (lo2 := [(0, .ref 0), (1, .int a1), (2, .int a2), (3, .int a3), (4, .int a4), (5, .ref 79)]) [] ⟨0, 14, 17, 21⟩ [⟨0, 14, 21, 13⟩, ⟨0, 14, 25, 15⟩] rfl (by decide) (fun z hz => nomatch hz) (by decide) (by decide) cl_RL_21 dL_filter_17 (Or.inl ⟨rfl, rfl⟩) (by decide) rfl ?_
      refine V_iconst (v := 1) dL_filter_19 (by decide) ?_
      exact V_iret dL_filter_20 rfl (by decide) (by decide) ⟨_, rfl, rfl, h⟩
    · refine VT_catch (i := 6) (lo2 := [(0, .ref 0), (1, .int a1), (2, .int a2), (3, .int a3), (4, .int a4), (5, .ref 79)]) [⟨0, 14, 17, 21⟩] ⟨0, 14, 21, 13⟩ [⟨0, 14, 25, 15⟩] rfl (by decide) (fun z hz => by simp only [List.mem_cons, List.not_mem_nil, or_false] at hz; rcases hz with rfl <;> first | exact Or.inr ⟨by decide, "java/lang/IndexOutOfBoundsException", by decide, by decide, cl_RL_21⟩) (by decide) (by decide) cl_RL_13 dL_filter_21 (Or.inl ⟨rfl, rfl⟩) (by decide) rfl ?_
      refine V_iconst (v := 2) dL_filter_23 (by decide) ?_
      exact V_iret dL_filter_24 rfl (by decide) (by decide) ⟨_, rfl, rfl, h⟩
    · refine VT_catch (i := 6) (lo2 := [(0, .ref 0), (1, .int a1), (2, .int a2), (3, .int a3), (4, .int a4), (5, .ref 79)]) [⟨0, 14, 17, 21⟩, ⟨0, 14, 21, 13⟩] ⟨0, 14, 25, 15⟩ [] rfl (by decide) (fun z hz => by simp only [List.mem_cons, List.not_mem_nil, or_false] at hz; rcases hz with rfl | rfl <;> first | exact Or.inr ⟨by decide, "java/lang/IndexOutOfBoundsException", by decide, by decide, cl_RL_21⟩ | exact Or.inr ⟨by decide, "java/lang/IllegalArgumentException", by decide, by decide, cl_RL_13⟩) (by decide) (by decide) cl_RL_15 dL_filter_25 (Or.inl ⟨rfl, rfl⟩) (by decide) rfl ?_
      refine V_iconst (v := 3) dL_filter_27 (by decide) ?_
      exact V_iret dL_filter_28 rfl (by decide) (by decide) ⟨_, rfl, rfl, h⟩
def wL_join (a1 : Int32) (a2 : Int32) (a3 : Int32) (a4 : Int32) (a5 : Int32) (I : QI) (J : QJ) (post : Int32 → QI → QJ → Prop) : Prop := (wX7_join a1 a2 a3 a4 a5 I (fun r2 I1 => (vp_in 0 1 ∧ (∀ J4 : QJ, J4 = q_u2 J 79 (0 : Int32).toNatClampNeg ((r2).toInt64) → post 0 I1 J4))) (fun E I3 => ((E = "java/lang/IndexOutOfBoundsException" ∧ post 1 I3 J) ∨ (E = "java/lang/IllegalArgumentException" ∧ post 2 I3 J) ∨ (E = "java/lang/IllegalStateException" ∧ post 3 I3 J))))
set_option maxRecDepth 100000 in
set_option maxHeartbeats 4000000 in
theorem s_mL_join {X : QX} {S : QS} {a1 : Int32} {a2 : Int32} {a3 : Int32} {a4 : Int32} {a5 : Int32} {I : QI} {J : QJ} {post : Int32 → QI → QJ → Prop} (hS : Sh S) (h : wL_join a1 a2 a3 a4 a5 I J post) : CX X mL_join 4 1 6 [.ref 0, .int a1, .int a2, .int a3, .int a4, .int a5, .ref 79] S I J (q_Pi S (fun r I2 J2 => post r I2 J2)) := by
  refine CX.of (lo := [(0, .ref 0), (1, .int a1), (2, .int a2), (3, .int a3), (4, .int a4), (5, .int a5), (6, .ref 79)]) ok_mL_join rfl (Nat.le_of_ble_eq_true rfl) rfl ?_
  replace h : (wX7_join a1 a2 a3 a4 a5 I (fun r2 I1 => (vp_in 0 1 ∧ (∀ J4 : QJ, J4 = q_u2 J 79 (0 : Int32).toNatClampNeg ((r2).toInt64) → post 0 I1 J4))) (fun E I3 => ((E = "java/lang/IndexOutOfBoundsException" ∧ post 1 I3 J) ∨ (E = "java/lang/IllegalArgumentException" ∧ post 2 I3 J) ∨ (E = "java/lang/IllegalStateException" ∧ post 3 I3 J)))) := h
  refine V_aload dL_join_0 rfl ?_
  refine V_iconst (v := 0) dL_join_2 (by decide) ?_
  refine V_aload_n dL_join_3 rfl rfl ?_
  refine V_iload_n dL_join_4 rfl rfl ?_
  refine V_iload_n dL_join_5 rfl rfl ?_
  refine V_iload_n dL_join_6 rfl rfl ?_
  refine V_iload dL_join_7 rfl ?_
  refine V_iload dL_join_9 rfl ?_
  refine V_callVx (st := [.int 0, .ref 79]) [.int a1, .int a2, .int a3, .int a4, .int a5] dL_join_11 ok_mX7_join rfl ml_RL_33 in_mX7_join se_mX7_join (hS.n 0 rfl) (hS.k 0 7 rfl) (by decide) rfl (Nat.le_of_ble_eq_true rfl) (by decide) (by decide) (by decide) (s_mX7_join hS h) (fun r2 I1 J9 h => ?_) (fun E I3 J9 h => ?_)
  · obtain ⟨rfl, h⟩ := h
    refine V_i2l dL_join_14 ?_
    obtain ⟨hb, h⟩ := h
    refine V_last dL_join_15 (hS.n 79 rfl) (hS.k 79 10 rfl) (by rw [(hS.z 79 1 rfl)]; exact hb) ?_
    refine V_memJ (fun J4 e_J4 => ?_)
    replace h := h J4 e_J4
    refine V_goto 31 dL_join_16 rfl ?_
    refine V_iconst (v := 0) dL_join_31 (by decide) ?_
    exact V_iret dL_join_32 rfl (by decide) (by decide) ⟨_, rfl, rfl, h⟩
  · obtain ⟨rfl, h⟩ := h
    rcases h with ⟨rfl, h⟩ | ⟨rfl, h⟩ | ⟨rfl, h⟩
    · refine VT_catch (i := 7) (lo2 := [(0, .ref 0), (1, .int a1), (2, .int a2), (3, .int a3), (4, .int a4), (5, .int a5), (6, .ref 79)]) [] ⟨0, 16, 19, 21⟩ [⟨0, 16, 23, 13⟩, ⟨0, 16, 27, 15⟩] rfl (by decide) (fun z hz => nomatch hz) (by decide) (by decide) cl_RL_21 dL_join_19 (Or.inl ⟨rfl, rfl⟩) (by decide) rfl ?_
      refine V_iconst (v := 1) dL_join_21 (by decide) ?_
      exact V_iret dL_join_22 rfl (by decide) (by decide) ⟨_, rfl, rfl, h⟩
    · refine VT_catch (i := 7) (lo2 := [(0, .ref 0), (1, .int a1), (2, .int a2), (3, .int a3), (4, .int a4), (5, .int a5), (6, .ref 79)]) [⟨0, 16, 19, 21⟩] ⟨0, 16, 23, 13⟩ [⟨0, 16, 27, 15⟩] rfl (by decide) (fun z hz => by simp only [List.mem_cons, List.not_mem_nil, or_false] at hz; rcases hz with rfl <;> first | exact Or.inr ⟨by decide, "java/lang/IndexOutOfBoundsException", by decide, by decide, cl_RL_21⟩) (by decide) (by decide) cl_RL_13 dL_join_23 (Or.inl ⟨rfl, rfl⟩) (by decide) rfl ?_
      refine V_iconst (v := 2) dL_join_25 (by decide) ?_
      exact V_iret dL_join_26 rfl (by decide) (by decide) ⟨_, rfl, rfl, h⟩
    · refine VT_catch (i := 7) (lo2 := [(0, .ref 0), (1, .int a1), (2, .int a2), (3, .int a3), (4, .int a4), (5, .int a5), (6, .ref 79)]) [⟨0, 16, 19, 21⟩, ⟨0, 16, 23, 13⟩] ⟨0, 16, 27, 15⟩ [] rfl (by decide) (fun z hz => by simp only [List.mem_cons, List.not_mem_nil, or_false] at hz; rcases hz with rfl | rfl <;> first | exact Or.inr ⟨by decide, "java/lang/IndexOutOfBoundsException", by decide, by decide, cl_RL_21⟩ | exact Or.inr ⟨by decide, "java/lang/IllegalArgumentException", by decide, by decide, cl_RL_13⟩) (by decide) (by decide) cl_RL_15 dL_join_27 (Or.inl ⟨rfl, rfl⟩) (by decide) rfl ?_
      refine V_iconst (v := 3) dL_join_29 (by decide) ?_
      exact V_iret dL_join_30 rfl (by decide) (by decide) ⟨_, rfl, rfl, h⟩
def wL_group (a1 : Int32) (a2 : Int32) (a3 : Int32) (a4 : Int32) (I : QI) (J : QJ) (post : Int32 → QI → QJ → Prop) : Prop := (wX7_group a1 a2 a3 a4 I (fun r2 I1 => (vp_in 0 1 ∧ (∀ J4 : QJ, J4 = q_u2 J 79 (0 : Int32).toNatClampNeg ((r2).toInt64) → post 0 I1 J4))) (fun E I3 => ((E = "java/lang/IndexOutOfBoundsException" ∧ post 1 I3 J) ∨ (E = "java/lang/IllegalArgumentException" ∧ post 2 I3 J) ∨ (E = "java/lang/IllegalStateException" ∧ post 3 I3 J))))
set_option maxRecDepth 100000 in
set_option maxHeartbeats 4000000 in
theorem s_mL_group {X : QX} {S : QS} {a1 : Int32} {a2 : Int32} {a3 : Int32} {a4 : Int32} {I : QI} {J : QJ} {post : Int32 → QI → QJ → Prop} (hS : Sh S) (h : wL_group a1 a2 a3 a4 I J post) : CX X mL_group 4 1 6 [.ref 0, .int a1, .int a2, .int a3, .int a4, .ref 79] S I J (q_Pi S (fun r I2 J2 => post r I2 J2)) := by
  refine CX.of (lo := [(0, .ref 0), (1, .int a1), (2, .int a2), (3, .int a3), (4, .int a4), (5, .ref 79)]) ok_mL_group rfl (Nat.le_of_ble_eq_true rfl) rfl ?_
  replace h : (wX7_group a1 a2 a3 a4 I (fun r2 I1 => (vp_in 0 1 ∧ (∀ J4 : QJ, J4 = q_u2 J 79 (0 : Int32).toNatClampNeg ((r2).toInt64) → post 0 I1 J4))) (fun E I3 => ((E = "java/lang/IndexOutOfBoundsException" ∧ post 1 I3 J) ∨ (E = "java/lang/IllegalArgumentException" ∧ post 2 I3 J) ∨ (E = "java/lang/IllegalStateException" ∧ post 3 I3 J)))) := h
  refine V_aload dL_group_0 rfl ?_
  refine V_iconst (v := 0) dL_group_2 (by decide) ?_
  refine V_aload_n dL_group_3 rfl rfl ?_
  refine V_iload_n dL_group_4 rfl rfl ?_
  refine V_iload_n dL_group_5 rfl rfl ?_
  refine V_iload_n dL_group_6 rfl rfl ?_
  refine V_iload dL_group_7 rfl ?_
  refine V_callVx (st := [.int 0, .ref 79]) [.int a1, .int a2, .int a3, .int a4] dL_group_9 ok_mX7_group rfl ml_RL_37 in_mX7_group se_mX7_group (hS.n 0 rfl) (hS.k 0 7 rfl) (by decide) rfl (Nat.le_of_ble_eq_true rfl) (by decide) (by decide) (by decide) (s_mX7_group hS h) (fun r2 I1 J9 h => ?_) (fun E I3 J9 h => ?_)
  · obtain ⟨rfl, h⟩ := h
    refine V_i2l dL_group_12 ?_
    obtain ⟨hb, h⟩ := h
    refine V_last dL_group_13 (hS.n 79 rfl) (hS.k 79 10 rfl) (by rw [(hS.z 79 1 rfl)]; exact hb) ?_
    refine V_memJ (fun J4 e_J4 => ?_)
    replace h := h J4 e_J4
    refine V_goto 29 dL_group_14 rfl ?_
    refine V_iconst (v := 0) dL_group_29 (by decide) ?_
    exact V_iret dL_group_30 rfl (by decide) (by decide) ⟨_, rfl, rfl, h⟩
  · obtain ⟨rfl, h⟩ := h
    rcases h with ⟨rfl, h⟩ | ⟨rfl, h⟩ | ⟨rfl, h⟩
    · refine VT_catch (i := 6) (lo2 := [(0, .ref 0), (1, .int a1), (2, .int a2), (3, .int a3), (4, .int a4), (5, .ref 79)]) [] ⟨0, 14, 17, 21⟩ [⟨0, 14, 21, 13⟩, ⟨0, 14, 25, 15⟩] rfl (by decide) (fun z hz => nomatch hz) (by decide) (by decide) cl_RL_21 dL_group_17 (Or.inl ⟨rfl, rfl⟩) (by decide) rfl ?_
      refine V_iconst (v := 1) dL_group_19 (by decide) ?_
      exact V_iret dL_group_20 rfl (by decide) (by decide) ⟨_, rfl, rfl, h⟩
    · refine VT_catch (i := 6) (lo2 := [(0, .ref 0), (1, .int a1), (2, .int a2), (3, .int a3), (4, .int a4), (5, .ref 79)]) [⟨0, 14, 17, 21⟩] ⟨0, 14, 21, 13⟩ [⟨0, 14, 25, 15⟩] rfl (by decide) (fun z hz => by simp only [List.mem_cons, List.not_mem_nil, or_false] at hz; rcases hz with rfl <;> first | exact Or.inr ⟨by decide, "java/lang/IndexOutOfBoundsException", by decide, by decide, cl_RL_21⟩) (by decide) (by decide) cl_RL_13 dL_group_21 (Or.inl ⟨rfl, rfl⟩) (by decide) rfl ?_
      refine V_iconst (v := 2) dL_group_23 (by decide) ?_
      exact V_iret dL_group_24 rfl (by decide) (by decide) ⟨_, rfl, rfl, h⟩
    · refine VT_catch (i := 6) (lo2 := [(0, .ref 0), (1, .int a1), (2, .int a2), (3, .int a3), (4, .int a4), (5, .ref 79)]) [⟨0, 14, 17, 21⟩, ⟨0, 14, 21, 13⟩] ⟨0, 14, 25, 15⟩ [] rfl (by decide) (fun z hz => by simp only [List.mem_cons, List.not_mem_nil, or_false] at hz; rcases hz with rfl | rfl <;> first | exact Or.inr ⟨by decide, "java/lang/IndexOutOfBoundsException", by decide, by decide, cl_RL_21⟩ | exact Or.inr ⟨by decide, "java/lang/IllegalArgumentException", by decide, by decide, cl_RL_13⟩) (by decide) (by decide) cl_RL_15 dL_group_25 (Or.inl ⟨rfl, rfl⟩) (by decide) rfl ?_
      refine V_iconst (v := 3) dL_group_27 (by decide) ?_
      exact V_iret dL_group_28 rfl (by decide) (by decide) ⟨_, rfl, rfl, h⟩
def wL_bag (a1 : Int32) (a2 : Int32) (a3 : Int32) (I : QI) (J : QJ) (post : Int32 → QI → QJ → Prop) : Prop := (wX7_bag a1 a2 a3 I (fun r2 I1 => (vp_in 0 1 ∧ (∀ J4 : QJ, J4 = q_u2 J 79 (0 : Int32).toNatClampNeg ((r2).toInt64) → post 0 I1 J4))) (fun E I3 => ((E = "java/lang/IndexOutOfBoundsException" ∧ post 1 I3 J) ∨ (E = "java/lang/IllegalArgumentException" ∧ post 2 I3 J) ∨ (E = "java/lang/IllegalStateException" ∧ post 3 I3 J))))
set_option maxRecDepth 100000 in
set_option maxHeartbeats 4000000 in
theorem s_mL_bag {X : QX} {S : QS} {a1 : Int32} {a2 : Int32} {a3 : Int32} {I : QI} {J : QJ} {post : Int32 → QI → QJ → Prop} (hS : Sh S) (h : wL_bag a1 a2 a3 I J post) : CX X mL_bag 4 1 6 [.ref 0, .int a1, .int a2, .int a3, .ref 79] S I J (q_Pi S (fun r I2 J2 => post r I2 J2)) := by
  refine CX.of (lo := [(0, .ref 0), (1, .int a1), (2, .int a2), (3, .int a3), (4, .ref 79)]) ok_mL_bag rfl (Nat.le_of_ble_eq_true rfl) rfl ?_
  replace h : (wX7_bag a1 a2 a3 I (fun r2 I1 => (vp_in 0 1 ∧ (∀ J4 : QJ, J4 = q_u2 J 79 (0 : Int32).toNatClampNeg ((r2).toInt64) → post 0 I1 J4))) (fun E I3 => ((E = "java/lang/IndexOutOfBoundsException" ∧ post 1 I3 J) ∨ (E = "java/lang/IllegalArgumentException" ∧ post 2 I3 J) ∨ (E = "java/lang/IllegalStateException" ∧ post 3 I3 J)))) := h
  refine V_aload dL_bag_0 rfl ?_
  refine V_iconst (v := 0) dL_bag_2 (by decide) ?_
  refine V_aload_n dL_bag_3 rfl rfl ?_
  refine V_iload_n dL_bag_4 rfl rfl ?_
  refine V_iload_n dL_bag_5 rfl rfl ?_
  refine V_iload_n dL_bag_6 rfl rfl ?_
  refine V_callVx (st := [.int 0, .ref 79]) [.int a1, .int a2, .int a3] dL_bag_7 ok_mX7_bag rfl ml_RL_40 in_mX7_bag se_mX7_bag (hS.n 0 rfl) (hS.k 0 7 rfl) (by decide) rfl (Nat.le_of_ble_eq_true rfl) (by decide) (by decide) (by decide) (s_mX7_bag hS h) (fun r2 I1 J9 h => ?_) (fun E I3 J9 h => ?_)
  · obtain ⟨rfl, h⟩ := h
    refine V_i2l dL_bag_10 ?_
    obtain ⟨hb, h⟩ := h
    refine V_last dL_bag_11 (hS.n 79 rfl) (hS.k 79 10 rfl) (by rw [(hS.z 79 1 rfl)]; exact hb) ?_
    refine V_memJ (fun J4 e_J4 => ?_)
    replace h := h J4 e_J4
    refine V_goto 27 dL_bag_12 rfl ?_
    refine V_iconst (v := 0) dL_bag_27 (by decide) ?_
    exact V_iret dL_bag_28 rfl (by decide) (by decide) ⟨_, rfl, rfl, h⟩
  · obtain ⟨rfl, h⟩ := h
    rcases h with ⟨rfl, h⟩ | ⟨rfl, h⟩ | ⟨rfl, h⟩
    · refine VT_catch (i := 5) (lo2 := [(0, .ref 0), (1, .int a1), (2, .int a2), (3, .int a3), (4, .ref 79)]) [] ⟨0, 12, 15, 21⟩ [⟨0, 12, 19, 13⟩, ⟨0, 12, 23, 15⟩] rfl (by decide) (fun z hz => nomatch hz) (by decide) (by decide) cl_RL_21 dL_bag_15 (Or.inl ⟨rfl, rfl⟩) (by decide) rfl ?_
      refine V_iconst (v := 1) dL_bag_17 (by decide) ?_
      exact V_iret dL_bag_18 rfl (by decide) (by decide) ⟨_, rfl, rfl, h⟩
    · refine VT_catch (i := 5) (lo2 := [(0, .ref 0), (1, .int a1), (2, .int a2), (3, .int a3), (4, .ref 79)]) [⟨0, 12, 15, 21⟩] ⟨0, 12, 19, 13⟩ [⟨0, 12, 23, 15⟩] rfl (by decide) (fun z hz => by simp only [List.mem_cons, List.not_mem_nil, or_false] at hz; rcases hz with rfl <;> first | exact Or.inr ⟨by decide, "java/lang/IndexOutOfBoundsException", by decide, by decide, cl_RL_21⟩) (by decide) (by decide) cl_RL_13 dL_bag_19 (Or.inl ⟨rfl, rfl⟩) (by decide) rfl ?_
      refine V_iconst (v := 2) dL_bag_21 (by decide) ?_
      exact V_iret dL_bag_22 rfl (by decide) (by decide) ⟨_, rfl, rfl, h⟩
    · refine VT_catch (i := 5) (lo2 := [(0, .ref 0), (1, .int a1), (2, .int a2), (3, .int a3), (4, .ref 79)]) [⟨0, 12, 15, 21⟩, ⟨0, 12, 19, 13⟩] ⟨0, 12, 23, 15⟩ [] rfl (by decide) (fun z hz => by simp only [List.mem_cons, List.not_mem_nil, or_false] at hz; rcases hz with rfl | rfl <;> first | exact Or.inr ⟨by decide, "java/lang/IndexOutOfBoundsException", by decide, by decide, cl_RL_21⟩ | exact Or.inr ⟨by decide, "java/lang/IllegalArgumentException", by decide, by decide, cl_RL_13⟩) (by decide) (by decide) cl_RL_15 dL_bag_23 (Or.inl ⟨rfl, rfl⟩) (by decide) rfl ?_
      refine V_iconst (v := 3) dL_bag_25 (by decide) ?_
      exact V_iret dL_bag_26 rfl (by decide) (by decide) ⟨_, rfl, rfl, h⟩
def wL_rows (a1 : Int32) (I : QI) (J : QJ) (post : Int32 → QI → QJ → Prop) : Prop := (wX7_rows a1 I (fun r2 I1 => (vp_in 0 1 ∧ (∀ J4 : QJ, J4 = q_u2 J 79 (0 : Int32).toNatClampNeg ((r2).toInt64) → post 0 I1 J4))) (fun E I3 => ((E = "java/lang/IndexOutOfBoundsException" ∧ post 1 I3 J) ∨ (E = "java/lang/IllegalStateException" ∧ post 2 I3 J))))
set_option maxRecDepth 100000 in
set_option maxHeartbeats 4000000 in
theorem s_mL_rows {X : QX} {S : QS} {a1 : Int32} {I : QI} {J : QJ} {post : Int32 → QI → QJ → Prop} (hS : Sh S) (h : wL_rows a1 I J post) : CX X mL_rows 8 1 6 [.ref 0, .int a1, .ref 79] S I J (q_Pi S (fun r I2 J2 => post r I2 J2)) := by
  refine CX.of (lo := [(0, .ref 0), (1, .int a1), (2, .ref 79)]) ok_mL_rows rfl (Nat.le_of_ble_eq_true rfl) rfl ?_
  replace h : (wX7_rows a1 I (fun r2 I1 => (vp_in 0 1 ∧ (∀ J4 : QJ, J4 = q_u2 J 79 (0 : Int32).toNatClampNeg ((r2).toInt64) → post 0 I1 J4))) (fun E I3 => ((E = "java/lang/IndexOutOfBoundsException" ∧ post 1 I3 J) ∨ (E = "java/lang/IllegalStateException" ∧ post 2 I3 J)))) := h
  refine V_aload_n dL_rows_0 rfl rfl ?_
  refine V_iconst (v := 0) dL_rows_1 (by decide) ?_
  refine V_aload_n dL_rows_2 rfl rfl ?_
  refine V_iload_n dL_rows_3 rfl rfl ?_
  refine V_callVx (st := [.int 0, .ref 79]) [.int a1] dL_rows_4 ok_mX7_rows rfl ml_RL_44 in_mX7_rows se_mX7_rows (hS.n 0 rfl) (hS.k 0 7 rfl) (by decide) rfl (Nat.le_of_ble_eq_true rfl) (by decide) (by decide) (by decide) (s_mX7_rows hS h) (fun r2 I1 J9 h => ?_) (fun E I3 J9 h => ?_)
  · obtain ⟨rfl, h⟩ := h
    refine V_i2l dL_rows_7 ?_
    obtain ⟨hb, h⟩ := h
    refine V_last dL_rows_8 (hS.n 79 rfl) (hS.k 79 10 rfl) (by rw [(hS.z 79 1 rfl)]; exact hb) ?_
    refine V_memJ (fun J4 e_J4 => ?_)
    replace h := h J4 e_J4
    refine V_goto 18 dL_rows_9 rfl ?_
    refine V_iconst (v := 0) dL_rows_18 (by decide) ?_
    exact V_iret dL_rows_19 rfl (by decide) (by decide) ⟨_, rfl, rfl, h⟩
  · obtain ⟨rfl, h⟩ := h
    rcases h with ⟨rfl, h⟩ | ⟨rfl, h⟩
    · refine VT_catch (i := 3) (lo2 := [(0, .ref 0), (1, .int a1), (2, .ref 79)]) [] ⟨0, 9, 12, 21⟩ [⟨0, 9, 15, 15⟩] rfl (by decide) (fun z hz => nomatch hz) (by decide) (by decide) cl_RL_21 dL_rows_12 (Or.inr ⟨_, rfl, rfl, rfl⟩) (by decide) rfl ?_
      refine V_iconst (v := 1) dL_rows_13 (by decide) ?_
      exact V_iret dL_rows_14 rfl (by decide) (by decide) ⟨_, rfl, rfl, h⟩
    · refine VT_catch (i := 3) (lo2 := [(0, .ref 0), (1, .int a1), (2, .ref 79)]) [⟨0, 9, 12, 21⟩] ⟨0, 9, 15, 15⟩ [] rfl (by decide) (fun z hz => by simp only [List.mem_cons, List.not_mem_nil, or_false] at hz; rcases hz with rfl <;> first | exact Or.inr ⟨by decide, "java/lang/IndexOutOfBoundsException", by decide, by decide, cl_RL_21⟩) (by decide) (by decide) cl_RL_15 dL_rows_15 (Or.inr ⟨_, rfl, rfl, rfl⟩) (by decide) rfl ?_
      refine V_iconst (v := 2) dL_rows_16 (by decide) ?_
      exact V_iret dL_rows_17 rfl (by decide) (by decide) ⟨_, rfl, rfl, h⟩
def wL_cell (a1 : Int32) (a2 : Int32) (a3 : Int32) (I : QI) (J : QJ) (post : Int32 → QI → QJ → Prop) : Prop := (wX7_cell a1 a2 a3 I (fun r2 I1 => (vp_in 0 1 ∧ (∀ J4 : QJ, J4 = q_u2 J 79 (0 : Int32).toNatClampNeg ((r2).toInt64) → post 0 I1 J4))) (fun E I3 => ((E = "java/lang/IndexOutOfBoundsException" ∧ post 1 I3 J) ∨ (E = "java/lang/IllegalStateException" ∧ post 2 I3 J))))
set_option maxRecDepth 100000 in
set_option maxHeartbeats 4000000 in
theorem s_mL_cell {X : QX} {S : QS} {a1 : Int32} {a2 : Int32} {a3 : Int32} {I : QI} {J : QJ} {post : Int32 → QI → QJ → Prop} (hS : Sh S) (h : wL_cell a1 a2 a3 I J post) : CX X mL_cell 8 1 6 [.ref 0, .int a1, .int a2, .int a3, .ref 79] S I J (q_Pi S (fun r I2 J2 => post r I2 J2)) := by
  refine CX.of (lo := [(0, .ref 0), (1, .int a1), (2, .int a2), (3, .int a3), (4, .ref 79)]) ok_mL_cell rfl (Nat.le_of_ble_eq_true rfl) rfl ?_
  replace h : (wX7_cell a1 a2 a3 I (fun r2 I1 => (vp_in 0 1 ∧ (∀ J4 : QJ, J4 = q_u2 J 79 (0 : Int32).toNatClampNeg ((r2).toInt64) → post 0 I1 J4))) (fun E I3 => ((E = "java/lang/IndexOutOfBoundsException" ∧ post 1 I3 J) ∨ (E = "java/lang/IllegalStateException" ∧ post 2 I3 J)))) := h
  refine V_aload dL_cell_0 rfl ?_
  refine V_iconst (v := 0) dL_cell_2 (by decide) ?_
  refine V_aload_n dL_cell_3 rfl rfl ?_
  refine V_iload_n dL_cell_4 rfl rfl ?_
  refine V_iload_n dL_cell_5 rfl rfl ?_
  refine V_iload_n dL_cell_6 rfl rfl ?_
  refine V_callVx (st := [.int 0, .ref 79]) [.int a1, .int a2, .int a3] dL_cell_7 ok_mX7_cell rfl ml_RL_47 in_mX7_cell se_mX7_cell (hS.n 0 rfl) (hS.k 0 7 rfl) (by decide) rfl (Nat.le_of_ble_eq_true rfl) (by decide) (by decide) (by decide) (s_mX7_cell hS h) (fun r2 I1 J9 h => ?_) (fun E I3 J9 h => ?_)
  · obtain ⟨rfl, h⟩ := h
    refine V_i2l dL_cell_10 ?_
    obtain ⟨hb, h⟩ := h
    refine V_last dL_cell_11 (hS.n 79 rfl) (hS.k 79 10 rfl) (by rw [(hS.z 79 1 rfl)]; exact hb) ?_
    refine V_memJ (fun J4 e_J4 => ?_)
    replace h := h J4 e_J4
    refine V_goto 23 dL_cell_12 rfl ?_
    refine V_iconst (v := 0) dL_cell_23 (by decide) ?_
    exact V_iret dL_cell_24 rfl (by decide) (by decide) ⟨_, rfl, rfl, h⟩
  · obtain ⟨rfl, h⟩ := h
    rcases h with ⟨rfl, h⟩ | ⟨rfl, h⟩
    · refine VT_catch (i := 5) (lo2 := [(0, .ref 0), (1, .int a1), (2, .int a2), (3, .int a3), (4, .ref 79)]) [] ⟨0, 12, 15, 21⟩ [⟨0, 12, 19, 15⟩] rfl (by decide) (fun z hz => nomatch hz) (by decide) (by decide) cl_RL_21 dL_cell_15 (Or.inl ⟨rfl, rfl⟩) (by decide) rfl ?_
      refine V_iconst (v := 1) dL_cell_17 (by decide) ?_
      exact V_iret dL_cell_18 rfl (by decide) (by decide) ⟨_, rfl, rfl, h⟩
    · refine VT_catch (i := 5) (lo2 := [(0, .ref 0), (1, .int a1), (2, .int a2), (3, .int a3), (4, .ref 79)]) [⟨0, 12, 15, 21⟩] ⟨0, 12, 19, 15⟩ [] rfl (by decide) (fun z hz => by simp only [List.mem_cons, List.not_mem_nil, or_false] at hz; rcases hz with rfl <;> first | exact Or.inr ⟨by decide, "java/lang/IndexOutOfBoundsException", by decide, by decide, cl_RL_21⟩) (by decide) (by decide) cl_RL_15 dL_cell_19 (Or.inl ⟨rfl, rfl⟩) (by decide) rfl ?_
      refine V_iconst (v := 2) dL_cell_21 (by decide) ?_
      exact V_iret dL_cell_22 rfl (by decide) (by decide) ⟨_, rfl, rfl, h⟩
def wL_same (a1 : Int32) (a2 : Int32) (I : QI) (J : QJ) (post : Int32 → QI → QJ → Prop) : Prop := (wX7_same a1 a2 I (fun r2 I1 => ((r2 = 0 → (vp_in 0 1 ∧ (∀ J4 : QJ, J4 = q_u2 J 79 (0 : Int32).toNatClampNeg (Int64.ofNat ((0 : Fin 2) : Nat)) → post 0 I1 J4))) ∧ (¬ r2 = 0 → (vp_in 0 1 ∧ (∀ J5 : QJ, J5 = q_u2 J 79 (0 : Int32).toNatClampNeg (Int64.ofNat ((1 : Fin 2) : Nat)) → post 0 I1 J5))))) (fun E I3 => ((E = "java/lang/IndexOutOfBoundsException" ∧ post 1 I3 J) ∨ (E = "java/lang/IllegalStateException" ∧ post 2 I3 J))))
set_option maxRecDepth 100000 in
set_option maxHeartbeats 4000000 in
theorem s_mL_same {X : QX} {S : QS} {a1 : Int32} {a2 : Int32} {I : QI} {J : QJ} {post : Int32 → QI → QJ → Prop} (hS : Sh S) (h : wL_same a1 a2 I J post) : CX X mL_same 8 1 6 [.ref 0, .int a1, .int a2, .ref 79] S I J (q_Pi S (fun r I2 J2 => post r I2 J2)) := by
  refine CX.of (lo := [(0, .ref 0), (1, .int a1), (2, .int a2), (3, .ref 79)]) ok_mL_same rfl (Nat.le_of_ble_eq_true rfl) rfl ?_
  replace h : (wX7_same a1 a2 I (fun r2 I1 => ((r2 = 0 → (vp_in 0 1 ∧ (∀ J4 : QJ, J4 = q_u2 J 79 (0 : Int32).toNatClampNeg (Int64.ofNat ((0 : Fin 2) : Nat)) → post 0 I1 J4))) ∧ (¬ r2 = 0 → (vp_in 0 1 ∧ (∀ J5 : QJ, J5 = q_u2 J 79 (0 : Int32).toNatClampNeg (Int64.ofNat ((1 : Fin 2) : Nat)) → post 0 I1 J5))))) (fun E I3 => ((E = "java/lang/IndexOutOfBoundsException" ∧ post 1 I3 J) ∨ (E = "java/lang/IllegalStateException" ∧ post 2 I3 J)))) := h
  refine V_aload_n dL_same_0 rfl rfl ?_
  refine V_iconst (v := 0) dL_same_1 (by decide) ?_
  refine V_aload_n dL_same_2 rfl rfl ?_
  refine V_iload_n dL_same_3 rfl rfl ?_
  refine V_iload_n dL_same_4 rfl rfl ?_
  refine V_callVx (st := [.int 0, .ref 79]) [.int a1, .int a2] dL_same_5 ok_mX7_same rfl ml_RL_50 in_mX7_same se_mX7_same (hS.n 0 rfl) (hS.k 0 7 rfl) (by decide) rfl (Nat.le_of_ble_eq_true rfl) (by decide) (by decide) (by decide) (s_mX7_same hS h) (fun r2 I1 J9 h => ?_) (fun E I3 J9 h => ?_)
  · obtain ⟨rfl, h⟩ := h
    refine V_if_eq 15 dL_same_8 rfl (fun hc => ?_) (fun hc => ?_)
    · replace h := h.1 hc
      refine V_lconst dL_same_15 ?_
      obtain ⟨hb, h⟩ := h
      refine V_last dL_same_16 (hS.n 79 rfl) (hS.k 79 10 rfl) (by rw [(hS.z 79 1 rfl)]; exact hb) ?_
      refine V_memJ (fun J4 e_J4 => ?_)
      replace h := h J4 e_J4
      refine V_goto 28 dL_same_17 rfl ?_
      refine V_iconst (v := 0) dL_same_28 (by decide) ?_
      exact V_iret dL_same_29 rfl (by decide) (by decide) ⟨_, rfl, rfl, h⟩
    · replace h := h.2 hc
      refine V_lconst dL_same_11 ?_
      refine V_goto 16 dL_same_12 rfl ?_
      obtain ⟨hb, h⟩ := h
      refine V_last dL_same_16 (hS.n 79 rfl) (hS.k 79 10 rfl) (by rw [(hS.z 79 1 rfl)]; exact hb) ?_
      refine V_memJ (fun J5 e_J5 => ?_)
      replace h := h J5 e_J5
      refine V_goto 28 dL_same_17 rfl ?_
      refine V_iconst (v := 0) dL_same_28 (by decide) ?_
      exact V_iret dL_same_29 rfl (by decide) (by decide) ⟨_, rfl, rfl, h⟩
  · obtain ⟨rfl, h⟩ := h
    rcases h with ⟨rfl, h⟩ | ⟨rfl, h⟩
    · refine VT_catch (i := 4) (lo2 := [(0, .ref 0), (1, .int a1), (2, .int a2), (3, .ref 79)]) [] ⟨0, 17, 20, 21⟩ [⟨0, 17, 24, 15⟩] rfl (by decide) (fun z hz => nomatch hz) (by decide) (by decide) cl_RL_21 dL_same_20 (Or.inl ⟨rfl, rfl⟩) (by decide) rfl ?_
      refine V_iconst (v := 1) dL_same_22 (by decide) ?_
      exact V_iret dL_same_23 rfl (by decide) (by decide) ⟨_, rfl, rfl, h⟩
    · refine VT_catch (i := 4) (lo2 := [(0, .ref 0), (1, .int a1), (2, .int a2), (3, .ref 79)]) [⟨0, 17, 20, 21⟩] ⟨0, 17, 24, 15⟩ [] rfl (by decide) (fun z hz => by simp only [List.mem_cons, List.not_mem_nil, or_false] at hz; rcases hz with rfl <;> first | exact Or.inr ⟨by decide, "java/lang/IndexOutOfBoundsException", by decide, by decide, cl_RL_21⟩) (by decide) (by decide) cl_RL_15 dL_same_24 (Or.inl ⟨rfl, rfl⟩) (by decide) rfl ?_
      refine V_iconst (v := 2) dL_same_26 (by decide) ?_
      exact V_iret dL_same_27 rfl (by decide) (by decide) ⟨_, rfl, rfl, h⟩
def wL_steps (a1 : Int32) (I : QI) (J : QJ) (post : Int32 → QI → QJ → Prop) : Prop := (wX7_steps a1 I (fun r2 I1 => (vp_in 0 1 ∧ (∀ J4 : QJ, J4 = q_u2 J 79 (0 : Int32).toNatClampNeg ((r2).toInt64) → post 0 I1 J4))) (fun E I3 => ((E = "java/lang/IndexOutOfBoundsException" ∧ post 1 I3 J) ∨ (E = "java/lang/IllegalStateException" ∧ post 2 I3 J))))
set_option maxRecDepth 100000 in
set_option maxHeartbeats 4000000 in
theorem s_mL_steps {X : QX} {S : QS} {a1 : Int32} {I : QI} {J : QJ} {post : Int32 → QI → QJ → Prop} (hS : Sh S) (h : wL_steps a1 I J post) : CX X mL_steps 8 1 6 [.ref 0, .int a1, .ref 79] S I J (q_Pi S (fun r I2 J2 => post r I2 J2)) := by
  refine CX.of (lo := [(0, .ref 0), (1, .int a1), (2, .ref 79)]) ok_mL_steps rfl (Nat.le_of_ble_eq_true rfl) rfl ?_
  replace h : (wX7_steps a1 I (fun r2 I1 => (vp_in 0 1 ∧ (∀ J4 : QJ, J4 = q_u2 J 79 (0 : Int32).toNatClampNeg ((r2).toInt64) → post 0 I1 J4))) (fun E I3 => ((E = "java/lang/IndexOutOfBoundsException" ∧ post 1 I3 J) ∨ (E = "java/lang/IllegalStateException" ∧ post 2 I3 J)))) := h
  refine V_aload_n dL_steps_0 rfl rfl ?_
  refine V_iconst (v := 0) dL_steps_1 (by decide) ?_
  refine V_aload_n dL_steps_2 rfl rfl ?_
  refine V_iload_n dL_steps_3 rfl rfl ?_
  refine V_callVx (st := [.int 0, .ref 79]) [.int a1] dL_steps_4 ok_mX7_steps rfl ml_RL_54 in_mX7_steps se_mX7_steps (hS.n 0 rfl) (hS.k 0 7 rfl) (by decide) rfl (Nat.le_of_ble_eq_true rfl) (by decide) (by decide) (by decide) (s_mX7_steps hS h) (fun r2 I1 J9 h => ?_) (fun E I3 J9 h => ?_)
  · obtain ⟨rfl, h⟩ := h
    refine V_i2l dL_steps_7 ?_
    obtain ⟨hb, h⟩ := h
    refine V_last dL_steps_8 (hS.n 79 rfl) (hS.k 79 10 rfl) (by rw [(hS.z 79 1 rfl)]; exact hb) ?_
    refine V_memJ (fun J4 e_J4 => ?_)
    replace h := h J4 e_J4
    refine V_goto 18 dL_steps_9 rfl ?_
    refine V_iconst (v := 0) dL_steps_18 (by decide) ?_
    exact V_iret dL_steps_19 rfl (by decide) (by decide) ⟨_, rfl, rfl, h⟩
  · obtain ⟨rfl, h⟩ := h
    rcases h with ⟨rfl, h⟩ | ⟨rfl, h⟩
    · refine VT_catch (i := 3) (lo2 := [(0, .ref 0), (1, .int a1), (2, .ref 79)]) [] ⟨0, 9, 12, 21⟩ [⟨0, 9, 15, 15⟩] rfl (by decide) (fun z hz => nomatch hz) (by decide) (by decide) cl_RL_21 dL_steps_12 (Or.inr ⟨_, rfl, rfl, rfl⟩) (by decide) rfl ?_
      refine V_iconst (v := 1) dL_steps_13 (by decide) ?_
      exact V_iret dL_steps_14 rfl (by decide) (by decide) ⟨_, rfl, rfl, h⟩
    · refine VT_catch (i := 3) (lo2 := [(0, .ref 0), (1, .int a1), (2, .ref 79)]) [⟨0, 9, 12, 21⟩] ⟨0, 9, 15, 15⟩ [] rfl (by decide) (fun z hz => by simp only [List.mem_cons, List.not_mem_nil, or_false] at hz; rcases hz with rfl <;> first | exact Or.inr ⟨by decide, "java/lang/IndexOutOfBoundsException", by decide, by decide, cl_RL_21⟩) (by decide) (by decide) cl_RL_15 dL_steps_15 (Or.inr ⟨_, rfl, rfl, rfl⟩) (by decide) rfl ?_
      refine V_iconst (v := 2) dL_steps_16 (by decide) ?_
      exact V_iret dL_steps_17 rfl (by decide) (by decide) ⟨_, rfl, rfl, h⟩
def wL_budget (a1 : Int32) (I : QI) (J : QJ) (post : Int32 → QI → QJ → Prop) : Prop := (wX7_budget a1 I (fun r2 I1 => (vp_in 0 1 ∧ (∀ J4 : QJ, J4 = q_u2 J 79 (0 : Int32).toNatClampNeg ((r2).toInt64) → post 0 I1 J4))) (fun E I3 => ((E = "java/lang/IllegalArgumentException" ∧ post 1 I3 J))))
set_option maxRecDepth 100000 in
set_option maxHeartbeats 4000000 in
theorem s_mL_budget {X : QX} {S : QS} {a1 : Int32} {I : QI} {J : QJ} {post : Int32 → QI → QJ → Prop} (hS : Sh S) (h : wL_budget a1 I J post) : CX X mL_budget 1 1 6 [.ref 0, .int a1, .ref 79] S I J (q_Pi S (fun r I2 J2 => post r I2 J2)) := by
  refine CX.of (lo := [(0, .ref 0), (1, .int a1), (2, .ref 79)]) ok_mL_budget rfl (Nat.le_of_ble_eq_true rfl) rfl ?_
  replace h : (wX7_budget a1 I (fun r2 I1 => (vp_in 0 1 ∧ (∀ J4 : QJ, J4 = q_u2 J 79 (0 : Int32).toNatClampNeg ((r2).toInt64) → post 0 I1 J4))) (fun E I3 => ((E = "java/lang/IllegalArgumentException" ∧ post 1 I3 J)))) := h
  refine V_aload_n dL_budget_0 rfl rfl ?_
  refine V_iconst (v := 0) dL_budget_1 (by decide) ?_
  refine V_aload_n dL_budget_2 rfl rfl ?_
  refine V_iload_n dL_budget_3 rfl rfl ?_
  refine V_callVx (st := [.int 0, .ref 79]) [.int a1] dL_budget_4 ok_mX7_budget rfl ml_RL_57 in_mX7_budget se_mX7_budget (hS.n 0 rfl) (hS.k 0 7 rfl) (by decide) rfl (Nat.le_of_ble_eq_true rfl) (by decide) (by decide) (by decide) (s_mX7_budget hS h) (fun r2 I1 J9 h => ?_) (fun E I3 J9 h => ?_)
  · obtain ⟨rfl, h⟩ := h
    refine V_i2l dL_budget_7 ?_
    obtain ⟨hb, h⟩ := h
    refine V_last dL_budget_8 (hS.n 79 rfl) (hS.k 79 10 rfl) (by rw [(hS.z 79 1 rfl)]; exact hb) ?_
    refine V_memJ (fun J4 e_J4 => ?_)
    replace h := h J4 e_J4
    refine V_goto 15 dL_budget_9 rfl ?_
    refine V_iconst (v := 0) dL_budget_15 (by decide) ?_
    exact V_iret dL_budget_16 rfl (by decide) (by decide) ⟨_, rfl, rfl, h⟩
  · obtain ⟨rfl, h⟩ := h
    obtain ⟨rfl, h⟩ := h
    refine VT_catch (i := 3) (lo2 := [(0, .ref 0), (1, .int a1), (2, .ref 79)]) [] ⟨0, 9, 12, 13⟩ [] rfl (by decide) (fun z hz => nomatch hz) (by decide) (by decide) cl_RL_13 dL_budget_12 (Or.inr ⟨_, rfl, rfl, rfl⟩) (by decide) rfl ?_
    refine V_iconst (v := 1) dL_budget_13 (by decide) ?_
    exact V_iret dL_budget_14 rfl (by decide) (by decide) ⟨_, rfl, rfl, h⟩
def wL_node (a1 : Int32) (a2 : Int32) (I : QI) (J : QJ) (post : Int32 → QJ → Prop) : Prop := (wX7_node a1 a2 I (fun r1 => (vp_in 0 1 ∧ (∀ J2 : QJ, J2 = q_u2 J 79 (0 : Int32).toNatClampNeg ((r1).toInt64) → post 0 J2))) (fun E => ((E = "java/lang/IndexOutOfBoundsException" ∧ post 1 J) ∨ (E = "java/lang/IllegalArgumentException" ∧ post 2 J))))
set_option maxRecDepth 100000 in
set_option maxHeartbeats 4000000 in
theorem s_mL_node {X : QX} {S : QS} {a1 : Int32} {a2 : Int32} {I : QI} {J : QJ} {post : Int32 → QJ → Prop} (hS : Sh S) (h : wL_node a1 a2 I J post) : CX X mL_node 2 1 6 [.ref 0, .int a1, .int a2, .ref 79] S I J (q_Pi S (fun r I2 J2 => I = I2 ∧ post r J2)) := by
  refine CX.of (lo := [(0, .ref 0), (1, .int a1), (2, .int a2), (3, .ref 79)]) ok_mL_node rfl (Nat.le_of_ble_eq_true rfl) rfl ?_
  replace h : (wX7_node a1 a2 I (fun r1 => (vp_in 0 1 ∧ (∀ J2 : QJ, J2 = q_u2 J 79 (0 : Int32).toNatClampNeg ((r1).toInt64) → post 0 J2))) (fun E => ((E = "java/lang/IndexOutOfBoundsException" ∧ post 1 J) ∨ (E = "java/lang/IllegalArgumentException" ∧ post 2 J)))) := h
  refine V_aload_n dL_node_0 rfl rfl ?_
  refine V_iconst (v := 0) dL_node_1 (by decide) ?_
  refine V_aload_n dL_node_2 rfl rfl ?_
  refine V_iload_n dL_node_3 rfl rfl ?_
  refine V_iload_n dL_node_4 rfl rfl ?_
  refine V_callVx (st := [.int 0, .ref 79]) [.int a1, .int a2] dL_node_5 ok_mX7_node rfl ml_RL_63 in_mX7_node se_mX7_node (hS.n 0 rfl) (hS.k 0 7 rfl) (by decide) rfl (Nat.le_of_ble_eq_true rfl) (by decide) (by decide) (by decide) (s_mX7_node hS h) (fun r1 I9 J9 h => ?_) (fun E I9 J9 h => ?_)
  · obtain ⟨rfl, rfl, h⟩ := h
    refine V_i2l dL_node_8 ?_
    obtain ⟨hb, h⟩ := h
    refine V_last dL_node_9 (hS.n 79 rfl) (hS.k 79 10 rfl) (by rw [(hS.z 79 1 rfl)]; exact hb) ?_
    refine V_memJ (fun J2 e_J2 => ?_)
    replace h := h J2 e_J2
    refine V_goto 21 dL_node_10 rfl ?_
    refine V_iconst (v := 0) dL_node_21 (by decide) ?_
    exact V_iret dL_node_22 rfl (by decide) (by decide) ⟨_, rfl, rfl, rfl, h⟩
  · obtain ⟨rfl, rfl, h⟩ := h
    rcases h with ⟨rfl, h⟩ | ⟨rfl, h⟩
    · refine VT_catch (i := 4) (lo2 := [(0, .ref 0), (1, .int a1), (2, .int a2), (3, .ref 79)]) [] ⟨0, 10, 13, 21⟩ [⟨0, 10, 17, 13⟩] rfl (by decide) (fun z hz => nomatch hz) (by decide) (by decide) cl_RL_21 dL_node_13 (Or.inl ⟨rfl, rfl⟩) (by decide) rfl ?_
      refine V_iconst (v := 1) dL_node_15 (by decide) ?_
      exact V_iret dL_node_16 rfl (by decide) (by decide) ⟨_, rfl, rfl, rfl, h⟩
    · refine VT_catch (i := 4) (lo2 := [(0, .ref 0), (1, .int a1), (2, .int a2), (3, .ref 79)]) [⟨0, 10, 13, 21⟩] ⟨0, 10, 17, 13⟩ [] rfl (by decide) (fun z hz => by simp only [List.mem_cons, List.not_mem_nil, or_false] at hz; rcases hz with rfl <;> first | exact Or.inr ⟨by decide, "java/lang/IndexOutOfBoundsException", by decide, by decide, cl_RL_21⟩) (by decide) (by decide) cl_RL_13 dL_node_17 (Or.inl ⟨rfl, rfl⟩) (by decide) rfl ?_
      refine V_iconst (v := 2) dL_node_19 (by decide) ?_
      exact V_iret dL_node_20 rfl (by decide) (by decide) ⟨_, rfl, rfl, rfl, h⟩
def wL_link (a1 : Int32) (a2 : Int32) (a3 : Int32) (a4 : Int32) (I : QI) (J : QJ) (post : Int32 → QI → QJ → Prop) : Prop := (wX7_link a1 a2 a3 a4 I (fun r2 I1 => (vp_in 0 1 ∧ (∀ J4 : QJ, J4 = q_u2 J 79 (0 : Int32).toNatClampNeg ((r2).toInt64) → post 0 I1 J4))) (fun E I3 => ((E = "java/lang/IndexOutOfBoundsException" ∧ post 1 I3 J) ∨ (E = "java/lang/IllegalArgumentException" ∧ post 2 I3 J) ∨ (E = "java/lang/IllegalStateException" ∧ post 3 I3 J))))
set_option maxRecDepth 100000 in
set_option maxHeartbeats 4000000 in
theorem s_mL_link {X : QX} {S : QS} {a1 : Int32} {a2 : Int32} {a3 : Int32} {a4 : Int32} {I : QI} {J : QJ} {post : Int32 → QI → QJ → Prop} (hS : Sh S) (h : wL_link a1 a2 a3 a4 I J post) : CX X mL_link 3 1 6 [.ref 0, .int a1, .int a2, .int a3, .int a4, .ref 79] S I J (q_Pi S (fun r I2 J2 => post r I2 J2)) := by
  refine CX.of (lo := [(0, .ref 0), (1, .int a1), (2, .int a2), (3, .int a3), (4, .int a4), (5, .ref 79)]) ok_mL_link rfl (Nat.le_of_ble_eq_true rfl) rfl ?_
  replace h : (wX7_link a1 a2 a3 a4 I (fun r2 I1 => (vp_in 0 1 ∧ (∀ J4 : QJ, J4 = q_u2 J 79 (0 : Int32).toNatClampNeg ((r2).toInt64) → post 0 I1 J4))) (fun E I3 => ((E = "java/lang/IndexOutOfBoundsException" ∧ post 1 I3 J) ∨ (E = "java/lang/IllegalArgumentException" ∧ post 2 I3 J) ∨ (E = "java/lang/IllegalStateException" ∧ post 3 I3 J)))) := h
  refine V_aload dL_link_0 rfl ?_
  refine V_iconst (v := 0) dL_link_2 (by decide) ?_
  refine V_aload_n dL_link_3 rfl rfl ?_
  refine V_iload_n dL_link_4 rfl rfl ?_
  refine V_iload_n dL_link_5 rfl rfl ?_
  refine V_iload_n dL_link_6 rfl rfl ?_
  refine V_iload dL_link_7 rfl ?_
  refine V_callVx (st := [.int 0, .ref 79]) [.int a1, .int a2, .int a3, .int a4] dL_link_9 ok_mX7_link rfl ml_RL_66 in_mX7_link se_mX7_link (hS.n 0 rfl) (hS.k 0 7 rfl) (by decide) rfl (Nat.le_of_ble_eq_true rfl) (by decide) (by decide) (by decide) (s_mX7_link hS h) (fun r2 I1 J9 h => ?_) (fun E I3 J9 h => ?_)
  · obtain ⟨rfl, h⟩ := h
    refine V_i2l dL_link_12 ?_
    obtain ⟨hb, h⟩ := h
    refine V_last dL_link_13 (hS.n 79 rfl) (hS.k 79 10 rfl) (by rw [(hS.z 79 1 rfl)]; exact hb) ?_
    refine V_memJ (fun J4 e_J4 => ?_)
    replace h := h J4 e_J4
    refine V_goto 29 dL_link_14 rfl ?_
    refine V_iconst (v := 0) dL_link_29 (by decide) ?_
    exact V_iret dL_link_30 rfl (by decide) (by decide) ⟨_, rfl, rfl, h⟩
  · obtain ⟨rfl, h⟩ := h
    rcases h with ⟨rfl, h⟩ | ⟨rfl, h⟩ | ⟨rfl, h⟩
    · refine VT_catch (i := 6) (lo2 := [(0, .ref 0), (1, .int a1), (2, .int a2), (3, .int a3), (4, .int a4), (5, .ref 79)]) [] ⟨0, 14, 17, 21⟩ [⟨0, 14, 21, 13⟩, ⟨0, 14, 25, 15⟩] rfl (by decide) (fun z hz => nomatch hz) (by decide) (by decide) cl_RL_21 dL_link_17 (Or.inl ⟨rfl, rfl⟩) (by decide) rfl ?_
      refine V_iconst (v := 1) dL_link_19 (by decide) ?_
      exact V_iret dL_link_20 rfl (by decide) (by decide) ⟨_, rfl, rfl, h⟩
    · refine VT_catch (i := 6) (lo2 := [(0, .ref 0), (1, .int a1), (2, .int a2), (3, .int a3), (4, .int a4), (5, .ref 79)]) [⟨0, 14, 17, 21⟩] ⟨0, 14, 21, 13⟩ [⟨0, 14, 25, 15⟩] rfl (by decide) (fun z hz => by simp only [List.mem_cons, List.not_mem_nil, or_false] at hz; rcases hz with rfl <;> first | exact Or.inr ⟨by decide, "java/lang/IndexOutOfBoundsException", by decide, by decide, cl_RL_21⟩) (by decide) (by decide) cl_RL_13 dL_link_21 (Or.inl ⟨rfl, rfl⟩) (by decide) rfl ?_
      refine V_iconst (v := 2) dL_link_23 (by decide) ?_
      exact V_iret dL_link_24 rfl (by decide) (by decide) ⟨_, rfl, rfl, h⟩
    · refine VT_catch (i := 6) (lo2 := [(0, .ref 0), (1, .int a1), (2, .int a2), (3, .int a3), (4, .int a4), (5, .ref 79)]) [⟨0, 14, 17, 21⟩, ⟨0, 14, 21, 13⟩] ⟨0, 14, 25, 15⟩ [] rfl (by decide) (fun z hz => by simp only [List.mem_cons, List.not_mem_nil, or_false] at hz; rcases hz with rfl | rfl <;> first | exact Or.inr ⟨by decide, "java/lang/IndexOutOfBoundsException", by decide, by decide, cl_RL_21⟩ | exact Or.inr ⟨by decide, "java/lang/IllegalArgumentException", by decide, by decide, cl_RL_13⟩) (by decide) (by decide) cl_RL_15 dL_link_25 (Or.inl ⟨rfl, rfl⟩) (by decide) rfl ?_
      refine V_iconst (v := 3) dL_link_27 (by decide) ?_
      exact V_iret dL_link_28 rfl (by decide) (by decide) ⟨_, rfl, rfl, h⟩
def wL_estimate (a1 : Int32) (I : QI) (J : QJ) (post : Int32 → QI → QJ → Prop) : Prop := (wX7_estimate a1 I (fun r2 I1 => (vp_in 0 1 ∧ (∀ J4 : QJ, J4 = q_u2 J 79 (0 : Int32).toNatClampNeg ((r2).toInt64) → post 0 I1 J4))) (fun E I3 => ((E = "java/lang/IllegalArgumentException" ∧ post 1 I3 J))))
set_option maxRecDepth 100000 in
set_option maxHeartbeats 4000000 in
theorem s_mL_estimate {X : QX} {S : QS} {a1 : Int32} {I : QI} {J : QJ} {post : Int32 → QI → QJ → Prop} (hS : Sh S) (h : wL_estimate a1 I J post) : CX X mL_estimate 7 1 6 [.ref 0, .int a1, .ref 79] S I J (q_Pi S (fun r I2 J2 => post r I2 J2)) := by
  refine CX.of (lo := [(0, .ref 0), (1, .int a1), (2, .ref 79)]) ok_mL_estimate rfl (Nat.le_of_ble_eq_true rfl) rfl ?_
  replace h : (wX7_estimate a1 I (fun r2 I1 => (vp_in 0 1 ∧ (∀ J4 : QJ, J4 = q_u2 J 79 (0 : Int32).toNatClampNeg ((r2).toInt64) → post 0 I1 J4))) (fun E I3 => ((E = "java/lang/IllegalArgumentException" ∧ post 1 I3 J)))) := h
  refine V_aload_n dL_estimate_0 rfl rfl ?_
  refine V_iconst (v := 0) dL_estimate_1 (by decide) ?_
  refine V_aload_n dL_estimate_2 rfl rfl ?_
  refine V_iload_n dL_estimate_3 rfl rfl ?_
  refine V_callVx (st := [.int 0, .ref 79]) [.int a1] dL_estimate_4 ok_mX7_estimate rfl ml_RL_69 in_mX7_estimate se_mX7_estimate (hS.n 0 rfl) (hS.k 0 7 rfl) (by decide) rfl (Nat.le_of_ble_eq_true rfl) (by decide) (by decide) (by decide) (s_mX7_estimate hS h) (fun r2 I1 J9 h => ?_) (fun E I3 J9 h => ?_)
  · obtain ⟨rfl, h⟩ := h
    refine V_i2l dL_estimate_7 ?_
    obtain ⟨hb, h⟩ := h
    refine V_last dL_estimate_8 (hS.n 79 rfl) (hS.k 79 10 rfl) (by rw [(hS.z 79 1 rfl)]; exact hb) ?_
    refine V_memJ (fun J4 e_J4 => ?_)
    replace h := h J4 e_J4
    refine V_goto 15 dL_estimate_9 rfl ?_
    refine V_iconst (v := 0) dL_estimate_15 (by decide) ?_
    exact V_iret dL_estimate_16 rfl (by decide) (by decide) ⟨_, rfl, rfl, h⟩
  · obtain ⟨rfl, h⟩ := h
    obtain ⟨rfl, h⟩ := h
    refine VT_catch (i := 3) (lo2 := [(0, .ref 0), (1, .int a1), (2, .ref 79)]) [] ⟨0, 9, 12, 13⟩ [] rfl (by decide) (fun z hz => nomatch hz) (by decide) (by decide) cl_RL_13 dL_estimate_12 (Or.inr ⟨_, rfl, rfl, rfl⟩) (by decide) rfl ?_
    refine V_iconst (v := 1) dL_estimate_13 (by decide) ?_
    exact V_iret dL_estimate_14 rfl (by decide) (by decide) ⟨_, rfl, rfl, h⟩
def wL_cost (a1 : Int32) (I : QI) (J : QJ) (post : Int32 → QI → QJ → Prop) : Prop := (wX7_cost a1 I (fun r2 I1 => (vp_in 0 1 ∧ (∀ J4 : QJ, J4 = q_u2 J 79 (0 : Int32).toNatClampNeg ((r2).toInt64) → post 0 I1 J4))) (fun E I3 => ((E = "java/lang/IllegalArgumentException" ∧ post 1 I3 J))))
set_option maxRecDepth 100000 in
set_option maxHeartbeats 4000000 in
theorem s_mL_cost {X : QX} {S : QS} {a1 : Int32} {I : QI} {J : QJ} {post : Int32 → QI → QJ → Prop} (hS : Sh S) (h : wL_cost a1 I J post) : CX X mL_cost 8 1 6 [.ref 0, .int a1, .ref 79] S I J (q_Pi S (fun r I2 J2 => post r I2 J2)) := by
  refine CX.of (lo := [(0, .ref 0), (1, .int a1), (2, .ref 79)]) ok_mL_cost rfl (Nat.le_of_ble_eq_true rfl) rfl ?_
  replace h : (wX7_cost a1 I (fun r2 I1 => (vp_in 0 1 ∧ (∀ J4 : QJ, J4 = q_u2 J 79 (0 : Int32).toNatClampNeg ((r2).toInt64) → post 0 I1 J4))) (fun E I3 => ((E = "java/lang/IllegalArgumentException" ∧ post 1 I3 J)))) := h
  refine V_aload_n dL_cost_0 rfl rfl ?_
  refine V_iconst (v := 0) dL_cost_1 (by decide) ?_
  refine V_aload_n dL_cost_2 rfl rfl ?_
  refine V_iload_n dL_cost_3 rfl rfl ?_
  refine V_callVx (st := [.int 0, .ref 79]) [.int a1] dL_cost_4 ok_mX7_cost rfl ml_RL_72 in_mX7_cost se_mX7_cost (hS.n 0 rfl) (hS.k 0 7 rfl) (by decide) rfl (Nat.le_of_ble_eq_true rfl) (by decide) (by decide) (by decide) (s_mX7_cost hS h) (fun r2 I1 J9 h => ?_) (fun E I3 J9 h => ?_)
  · obtain ⟨rfl, h⟩ := h
    refine V_i2l dL_cost_7 ?_
    obtain ⟨hb, h⟩ := h
    refine V_last dL_cost_8 (hS.n 79 rfl) (hS.k 79 10 rfl) (by rw [(hS.z 79 1 rfl)]; exact hb) ?_
    refine V_memJ (fun J4 e_J4 => ?_)
    replace h := h J4 e_J4
    refine V_goto 15 dL_cost_9 rfl ?_
    refine V_iconst (v := 0) dL_cost_15 (by decide) ?_
    exact V_iret dL_cost_16 rfl (by decide) (by decide) ⟨_, rfl, rfl, h⟩
  · obtain ⟨rfl, h⟩ := h
    obtain ⟨rfl, h⟩ := h
    refine VT_catch (i := 3) (lo2 := [(0, .ref 0), (1, .int a1), (2, .ref 79)]) [] ⟨0, 9, 12, 13⟩ [] rfl (by decide) (fun z hz => nomatch hz) (by decide) (by decide) cl_RL_13 dL_cost_12 (Or.inr ⟨_, rfl, rfl, rfl⟩) (by decide) rfl ?_
    refine V_iconst (v := 1) dL_cost_13 (by decide) ?_
    exact V_iret dL_cost_14 rfl (by decide) (by decide) ⟨_, rfl, rfl, h⟩
def wL_split (a1 : Int32) (I : QI) (J : QJ) (post : Int32 → QI → QJ → Prop) : Prop := (wX7_split a1 I (fun r2 I1 => (vp_in 0 1 ∧ (∀ J4 : QJ, J4 = q_u2 J 79 (0 : Int32).toNatClampNeg ((r2).toInt64) → post 0 I1 J4))) (fun E I3 => ((E = "java/lang/IllegalArgumentException" ∧ post 1 I3 J))))
set_option maxRecDepth 100000 in
set_option maxHeartbeats 4000000 in
theorem s_mL_split {X : QX} {S : QS} {a1 : Int32} {I : QI} {J : QJ} {post : Int32 → QI → QJ → Prop} (hS : Sh S) (h : wL_split a1 I J post) : CX X mL_split 8 1 6 [.ref 0, .int a1, .ref 79] S I J (q_Pi S (fun r I2 J2 => post r I2 J2)) := by
  refine CX.of (lo := [(0, .ref 0), (1, .int a1), (2, .ref 79)]) ok_mL_split rfl (Nat.le_of_ble_eq_true rfl) rfl ?_
  replace h : (wX7_split a1 I (fun r2 I1 => (vp_in 0 1 ∧ (∀ J4 : QJ, J4 = q_u2 J 79 (0 : Int32).toNatClampNeg ((r2).toInt64) → post 0 I1 J4))) (fun E I3 => ((E = "java/lang/IllegalArgumentException" ∧ post 1 I3 J)))) := h
  refine V_aload_n dL_split_0 rfl rfl ?_
  refine V_iconst (v := 0) dL_split_1 (by decide) ?_
  refine V_aload_n dL_split_2 rfl rfl ?_
  refine V_iload_n dL_split_3 rfl rfl ?_
  refine V_callVx (st := [.int 0, .ref 79]) [.int a1] dL_split_4 ok_mX7_split rfl ml_RL_75 in_mX7_split se_mX7_split (hS.n 0 rfl) (hS.k 0 7 rfl) (by decide) rfl (Nat.le_of_ble_eq_true rfl) (by decide) (by decide) (by decide) (s_mX7_split hS h) (fun r2 I1 J9 h => ?_) (fun E I3 J9 h => ?_)
  · obtain ⟨rfl, h⟩ := h
    refine V_i2l dL_split_7 ?_
    obtain ⟨hb, h⟩ := h
    refine V_last dL_split_8 (hS.n 79 rfl) (hS.k 79 10 rfl) (by rw [(hS.z 79 1 rfl)]; exact hb) ?_
    refine V_memJ (fun J4 e_J4 => ?_)
    replace h := h J4 e_J4
    refine V_goto 15 dL_split_9 rfl ?_
    refine V_iconst (v := 0) dL_split_15 (by decide) ?_
    exact V_iret dL_split_16 rfl (by decide) (by decide) ⟨_, rfl, rfl, h⟩
  · obtain ⟨rfl, h⟩ := h
    obtain ⟨rfl, h⟩ := h
    refine VT_catch (i := 3) (lo2 := [(0, .ref 0), (1, .int a1), (2, .ref 79)]) [] ⟨0, 9, 12, 13⟩ [] rfl (by decide) (fun z hz => nomatch hz) (by decide) (by decide) cl_RL_13 dL_split_12 (Or.inr ⟨_, rfl, rfl, rfl⟩) (by decide) rfl ?_
    refine V_iconst (v := 1) dL_split_13 (by decide) ?_
    exact V_iret dL_split_14 rfl (by decide) (by decide) ⟨_, rfl, rfl, h⟩
def wL_view (a1 : Int32) (a2 : Int32) (a3 : Int32) (a4 : Int32) (I : QI) (J : QJ) (post : Int32 → QI → QJ → Prop) : Prop := (wX7_view a1 a2 a3 a4 I (fun r2 I1 => (vp_in 0 1 ∧ (∀ J4 : QJ, J4 = q_u2 J 79 (0 : Int32).toNatClampNeg ((r2).toInt64) → post 0 I1 J4))) (fun E I3 => ((E = "java/lang/IndexOutOfBoundsException" ∧ post 1 I3 J) ∨ (E = "java/lang/IllegalArgumentException" ∧ post 2 I3 J) ∨ (E = "java/lang/IllegalStateException" ∧ post 3 I3 J))))
set_option maxRecDepth 100000 in
set_option maxHeartbeats 4000000 in
theorem s_mL_view {X : QX} {S : QS} {a1 : Int32} {a2 : Int32} {a3 : Int32} {a4 : Int32} {I : QI} {J : QJ} {post : Int32 → QI → QJ → Prop} (hS : Sh S) (h : wL_view a1 a2 a3 a4 I J post) : CX X mL_view 3 1 6 [.ref 0, .int a1, .int a2, .int a3, .int a4, .ref 79] S I J (q_Pi S (fun r I2 J2 => post r I2 J2)) := by
  refine CX.of (lo := [(0, .ref 0), (1, .int a1), (2, .int a2), (3, .int a3), (4, .int a4), (5, .ref 79)]) ok_mL_view rfl (Nat.le_of_ble_eq_true rfl) rfl ?_
  replace h : (wX7_view a1 a2 a3 a4 I (fun r2 I1 => (vp_in 0 1 ∧ (∀ J4 : QJ, J4 = q_u2 J 79 (0 : Int32).toNatClampNeg ((r2).toInt64) → post 0 I1 J4))) (fun E I3 => ((E = "java/lang/IndexOutOfBoundsException" ∧ post 1 I3 J) ∨ (E = "java/lang/IllegalArgumentException" ∧ post 2 I3 J) ∨ (E = "java/lang/IllegalStateException" ∧ post 3 I3 J)))) := h
  refine V_aload dL_view_0 rfl ?_
  refine V_iconst (v := 0) dL_view_2 (by decide) ?_
  refine V_aload_n dL_view_3 rfl rfl ?_
  refine V_iload_n dL_view_4 rfl rfl ?_
  refine V_iload_n dL_view_5 rfl rfl ?_
  refine V_iload_n dL_view_6 rfl rfl ?_
  refine V_iload dL_view_7 rfl ?_
  refine V_callVx (st := [.int 0, .ref 79]) [.int a1, .int a2, .int a3, .int a4] dL_view_9 ok_mX7_view rfl ml_RL_78 in_mX7_view se_mX7_view (hS.n 0 rfl) (hS.k 0 7 rfl) (by decide) rfl (Nat.le_of_ble_eq_true rfl) (by decide) (by decide) (by decide) (s_mX7_view hS h) (fun r2 I1 J9 h => ?_) (fun E I3 J9 h => ?_)
  · obtain ⟨rfl, h⟩ := h
    refine V_i2l dL_view_12 ?_
    obtain ⟨hb, h⟩ := h
    refine V_last dL_view_13 (hS.n 79 rfl) (hS.k 79 10 rfl) (by rw [(hS.z 79 1 rfl)]; exact hb) ?_
    refine V_memJ (fun J4 e_J4 => ?_)
    replace h := h J4 e_J4
    refine V_goto 29 dL_view_14 rfl ?_
    refine V_iconst (v := 0) dL_view_29 (by decide) ?_
    exact V_iret dL_view_30 rfl (by decide) (by decide) ⟨_, rfl, rfl, h⟩
  · obtain ⟨rfl, h⟩ := h
    rcases h with ⟨rfl, h⟩ | ⟨rfl, h⟩ | ⟨rfl, h⟩
    · refine VT_catch (i := 6) (lo2 := [(0, .ref 0), (1, .int a1), (2, .int a2), (3, .int a3), (4, .int a4), (5, .ref 79)]) [] ⟨0, 14, 17, 21⟩ [⟨0, 14, 21, 13⟩, ⟨0, 14, 25, 15⟩] rfl (by decide) (fun z hz => nomatch hz) (by decide) (by decide) cl_RL_21 dL_view_17 (Or.inl ⟨rfl, rfl⟩) (by decide) rfl ?_
      refine V_iconst (v := 1) dL_view_19 (by decide) ?_
      exact V_iret dL_view_20 rfl (by decide) (by decide) ⟨_, rfl, rfl, h⟩
    · refine VT_catch (i := 6) (lo2 := [(0, .ref 0), (1, .int a1), (2, .int a2), (3, .int a3), (4, .int a4), (5, .ref 79)]) [⟨0, 14, 17, 21⟩] ⟨0, 14, 21, 13⟩ [⟨0, 14, 25, 15⟩] rfl (by decide) (fun z hz => by simp only [List.mem_cons, List.not_mem_nil, or_false] at hz; rcases hz with rfl <;> first | exact Or.inr ⟨by decide, "java/lang/IndexOutOfBoundsException", by decide, by decide, cl_RL_21⟩) (by decide) (by decide) cl_RL_13 dL_view_21 (Or.inl ⟨rfl, rfl⟩) (by decide) rfl ?_
      refine V_iconst (v := 2) dL_view_23 (by decide) ?_
      exact V_iret dL_view_24 rfl (by decide) (by decide) ⟨_, rfl, rfl, h⟩
    · refine VT_catch (i := 6) (lo2 := [(0, .ref 0), (1, .int a1), (2, .int a2), (3, .int a3), (4, .int a4), (5, .ref 79)]) [⟨0, 14, 17, 21⟩, ⟨0, 14, 21, 13⟩] ⟨0, 14, 25, 15⟩ [] rfl (by decide) (fun z hz => by simp only [List.mem_cons, List.not_mem_nil, or_false] at hz; rcases hz with rfl | rfl <;> first | exact Or.inr ⟨by decide, "java/lang/IndexOutOfBoundsException", by decide, by decide, cl_RL_21⟩ | exact Or.inr ⟨by decide, "java/lang/IllegalArgumentException", by decide, by decide, cl_RL_13⟩) (by decide) (by decide) cl_RL_15 dL_view_25 (Or.inl ⟨rfl, rfl⟩) (by decide) rfl ?_
      refine V_iconst (v := 3) dL_view_27 (by decide) ?_
      exact V_iret dL_view_28 rfl (by decide) (by decide) ⟨_, rfl, rfl, h⟩
def wL_different (a1 : Int32) (I : QI) (J : QJ) (post : Int32 → QJ → Prop) : Prop := (wX7_different a1 I (fun r1 => (vp_in 0 1 ∧ (∀ J2 : QJ, J2 = q_u2 J 79 (0 : Int32).toNatClampNeg ((r1).toInt64) → post 0 J2))) (fun E => ((E = "java/lang/IndexOutOfBoundsException" ∧ post 1 J))))
set_option maxRecDepth 100000 in
set_option maxHeartbeats 4000000 in
theorem s_mL_different {X : QX} {S : QS} {a1 : Int32} {I : QI} {J : QJ} {post : Int32 → QJ → Prop} (hS : Sh S) (h : wL_different a1 I J post) : CX X mL_different 6 1 6 [.ref 0, .int a1, .ref 79] S I J (q_Pi S (fun r I2 J2 => I = I2 ∧ post r J2)) := by
  refine CX.of (lo := [(0, .ref 0), (1, .int a1), (2, .ref 79)]) ok_mL_different rfl (Nat.le_of_ble_eq_true rfl) rfl ?_
  replace h : (wX7_different a1 I (fun r1 => (vp_in 0 1 ∧ (∀ J2 : QJ, J2 = q_u2 J 79 (0 : Int32).toNatClampNeg ((r1).toInt64) → post 0 J2))) (fun E => ((E = "java/lang/IndexOutOfBoundsException" ∧ post 1 J)))) := h
  refine V_aload_n dL_different_0 rfl rfl ?_
  refine V_iconst (v := 0) dL_different_1 (by decide) ?_
  refine V_aload_n dL_different_2 rfl rfl ?_
  refine V_iload_n dL_different_3 rfl rfl ?_
  refine V_callVx (st := [.int 0, .ref 79]) [.int a1] dL_different_4 ok_mX7_different rfl ml_RL_81 in_mX7_different se_mX7_different (hS.n 0 rfl) (hS.k 0 7 rfl) (by decide) rfl (Nat.le_of_ble_eq_true rfl) (by decide) (by decide) (by decide) (s_mX7_different hS h) (fun r1 I9 J9 h => ?_) (fun E I9 J9 h => ?_)
  · obtain ⟨rfl, rfl, h⟩ := h
    refine V_i2l dL_different_7 ?_
    obtain ⟨hb, h⟩ := h
    refine V_last dL_different_8 (hS.n 79 rfl) (hS.k 79 10 rfl) (by rw [(hS.z 79 1 rfl)]; exact hb) ?_
    refine V_memJ (fun J2 e_J2 => ?_)
    replace h := h J2 e_J2
    refine V_goto 15 dL_different_9 rfl ?_
    refine V_iconst (v := 0) dL_different_15 (by decide) ?_
    exact V_iret dL_different_16 rfl (by decide) (by decide) ⟨_, rfl, rfl, rfl, h⟩
  · obtain ⟨rfl, rfl, h⟩ := h
    obtain ⟨rfl, h⟩ := h
    refine VT_catch (i := 3) (lo2 := [(0, .ref 0), (1, .int a1), (2, .ref 79)]) [] ⟨0, 9, 12, 21⟩ [] rfl (by decide) (fun z hz => nomatch hz) (by decide) (by decide) cl_RL_21 dL_different_12 (Or.inr ⟨_, rfl, rfl, rfl⟩) (by decide) rfl ?_
    refine V_iconst (v := 1) dL_different_13 (by decide) ?_
    exact V_iret dL_different_14 rfl (by decide) (by decide) ⟨_, rfl, rfl, rfl, h⟩
def wL_often (a1 : Int32) (a2 : Int32) (a3 : Int32) (I : QI) (J : QJ) (post : Int32 → QJ → Prop) : Prop := (wX7_often a1 a2 a3 I (fun r1 => (vp_in 0 1 ∧ (∀ J2 : QJ, J2 = q_u2 J 79 (0 : Int32).toNatClampNeg ((r1).toInt64) → post 0 J2))) (fun E => ((E = "java/lang/IndexOutOfBoundsException" ∧ post 1 J))))
set_option maxRecDepth 100000 in
set_option maxHeartbeats 4000000 in
theorem s_mL_often {X : QX} {S : QS} {a1 : Int32} {a2 : Int32} {a3 : Int32} {I : QI} {J : QJ} {post : Int32 → QJ → Prop} (hS : Sh S) (h : wL_often a1 a2 a3 I J post) : CX X mL_often 5 1 6 [.ref 0, .int a1, .int a2, .int a3, .ref 79] S I J (q_Pi S (fun r I2 J2 => I = I2 ∧ post r J2)) := by
  refine CX.of (lo := [(0, .ref 0), (1, .int a1), (2, .int a2), (3, .int a3), (4, .ref 79)]) ok_mL_often rfl (Nat.le_of_ble_eq_true rfl) rfl ?_
  replace h : (wX7_often a1 a2 a3 I (fun r1 => (vp_in 0 1 ∧ (∀ J2 : QJ, J2 = q_u2 J 79 (0 : Int32).toNatClampNeg ((r1).toInt64) → post 0 J2))) (fun E => ((E = "java/lang/IndexOutOfBoundsException" ∧ post 1 J)))) := h
  refine V_aload dL_often_0 rfl ?_
  refine V_iconst (v := 0) dL_often_2 (by decide) ?_
  refine V_aload_n dL_often_3 rfl rfl ?_
  refine V_iload_n dL_often_4 rfl rfl ?_
  refine V_iload_n dL_often_5 rfl rfl ?_
  refine V_iload_n dL_often_6 rfl rfl ?_
  refine V_callVx (st := [.int 0, .ref 79]) [.int a1, .int a2, .int a3] dL_often_7 ok_mX7_often rfl ml_RL_84 in_mX7_often se_mX7_often (hS.n 0 rfl) (hS.k 0 7 rfl) (by decide) rfl (Nat.le_of_ble_eq_true rfl) (by decide) (by decide) (by decide) (s_mX7_often hS h) (fun r1 I9 J9 h => ?_) (fun E I9 J9 h => ?_)
  · obtain ⟨rfl, rfl, h⟩ := h
    refine V_i2l dL_often_10 ?_
    obtain ⟨hb, h⟩ := h
    refine V_last dL_often_11 (hS.n 79 rfl) (hS.k 79 10 rfl) (by rw [(hS.z 79 1 rfl)]; exact hb) ?_
    refine V_memJ (fun J2 e_J2 => ?_)
    replace h := h J2 e_J2
    refine V_goto 19 dL_often_12 rfl ?_
    refine V_iconst (v := 0) dL_often_19 (by decide) ?_
    exact V_iret dL_often_20 rfl (by decide) (by decide) ⟨_, rfl, rfl, rfl, h⟩
  · obtain ⟨rfl, rfl, h⟩ := h
    obtain ⟨rfl, h⟩ := h
    refine VT_catch (i := 5) (lo2 := [(0, .ref 0), (1, .int a1), (2, .int a2), (3, .int a3), (4, .ref 79)]) [] ⟨0, 12, 15, 21⟩ [] rfl (by decide) (fun z hz => nomatch hz) (by decide) (by decide) cl_RL_21 dL_often_15 (Or.inl ⟨rfl, rfl⟩) (by decide) rfl ?_
    refine V_iconst (v := 1) dL_often_17 (by decide) ?_
    exact V_iret dL_often_18 rfl (by decide) (by decide) ⟨_, rfl, rfl, rfl, h⟩
def wL_ways (a1 : Int32) (I : QI) (J : QJ) (post : Int32 → QI → QJ → Prop) : Prop := (wX7_ways a1 I (fun r2 I1 => (vp_in 0 1 ∧ (∀ J4 : QJ, J4 = q_u2 J 79 (0 : Int32).toNatClampNeg ((r2).toInt64) → post 0 I1 J4))) (fun E I3 => ((E = "java/lang/IndexOutOfBoundsException" ∧ post 1 I3 J) ∨ (E = "java/lang/IllegalStateException" ∧ post 2 I3 J))))
set_option maxRecDepth 100000 in
set_option maxHeartbeats 4000000 in
theorem s_mL_ways {X : QX} {S : QS} {a1 : Int32} {I : QI} {J : QJ} {post : Int32 → QI → QJ → Prop} (hS : Sh S) (h : wL_ways a1 I J post) : CX X mL_ways 5 1 6 [.ref 0, .int a1, .ref 79] S I J (q_Pi S (fun r I2 J2 => post r I2 J2)) := by
  refine CX.of (lo := [(0, .ref 0), (1, .int a1), (2, .ref 79)]) ok_mL_ways rfl (Nat.le_of_ble_eq_true rfl) rfl ?_
  replace h : (wX7_ways a1 I (fun r2 I1 => (vp_in 0 1 ∧ (∀ J4 : QJ, J4 = q_u2 J 79 (0 : Int32).toNatClampNeg ((r2).toInt64) → post 0 I1 J4))) (fun E I3 => ((E = "java/lang/IndexOutOfBoundsException" ∧ post 1 I3 J) ∨ (E = "java/lang/IllegalStateException" ∧ post 2 I3 J)))) := h
  refine V_aload_n dL_ways_0 rfl rfl ?_
  refine V_iconst (v := 0) dL_ways_1 (by decide) ?_
  refine V_aload_n dL_ways_2 rfl rfl ?_
  refine V_iload_n dL_ways_3 rfl rfl ?_
  refine V_callVx (st := [.int 0, .ref 79]) [.int a1] dL_ways_4 ok_mX7_ways rfl ml_RL_87 in_mX7_ways se_mX7_ways (hS.n 0 rfl) (hS.k 0 7 rfl) (by decide) rfl (Nat.le_of_ble_eq_true rfl) (by decide) (by decide) (by decide) (s_mX7_ways hS h) (fun r2 I1 J9 h => ?_) (fun E I3 J9 h => ?_)
  · obtain ⟨rfl, h⟩ := h
    refine V_i2l dL_ways_7 ?_
    obtain ⟨hb, h⟩ := h
    refine V_last dL_ways_8 (hS.n 79 rfl) (hS.k 79 10 rfl) (by rw [(hS.z 79 1 rfl)]; exact hb) ?_
    refine V_memJ (fun J4 e_J4 => ?_)
    replace h := h J4 e_J4
    refine V_goto 18 dL_ways_9 rfl ?_
    refine V_iconst (v := 0) dL_ways_18 (by decide) ?_
    exact V_iret dL_ways_19 rfl (by decide) (by decide) ⟨_, rfl, rfl, h⟩
  · obtain ⟨rfl, h⟩ := h
    rcases h with ⟨rfl, h⟩ | ⟨rfl, h⟩
    · refine VT_catch (i := 3) (lo2 := [(0, .ref 0), (1, .int a1), (2, .ref 79)]) [] ⟨0, 9, 12, 21⟩ [⟨0, 9, 15, 15⟩] rfl (by decide) (fun z hz => nomatch hz) (by decide) (by decide) cl_RL_21 dL_ways_12 (Or.inr ⟨_, rfl, rfl, rfl⟩) (by decide) rfl ?_
      refine V_iconst (v := 1) dL_ways_13 (by decide) ?_
      exact V_iret dL_ways_14 rfl (by decide) (by decide) ⟨_, rfl, rfl, h⟩
    · refine VT_catch (i := 3) (lo2 := [(0, .ref 0), (1, .int a1), (2, .ref 79)]) [⟨0, 9, 12, 21⟩] ⟨0, 9, 15, 15⟩ [] rfl (by decide) (fun z hz => by simp only [List.mem_cons, List.not_mem_nil, or_false] at hz; rcases hz with rfl <;> first | exact Or.inr ⟨by decide, "java/lang/IndexOutOfBoundsException", by decide, by decide, cl_RL_21⟩) (by decide) (by decide) cl_RL_15 dL_ways_15 (Or.inr ⟨_, rfl, rfl, rfl⟩) (by decide) rfl ?_
      refine V_iconst (v := 2) dL_ways_16 (by decide) ?_
      exact V_iret dL_ways_17 rfl (by decide) (by decide) ⟨_, rfl, rfl, h⟩
def wL_rewrite (a1 : Int32) (I : QI) (J : QJ) (post : Int32 → QI → QJ → Prop) : Prop := (wX7_rewrite a1 I (fun r2 I1 => (vp_in 0 1 ∧ (∀ J4 : QJ, J4 = q_u2 J 79 (0 : Int32).toNatClampNeg ((r2).toInt64) → post 0 I1 J4))) (fun E I3 => ((E = "java/lang/IndexOutOfBoundsException" ∧ post 1 I3 J) ∨ (E = "java/lang/IllegalStateException" ∧ post 2 I3 J))))
set_option maxRecDepth 100000 in
set_option maxHeartbeats 4000000 in
theorem s_mL_rewrite {X : QX} {S : QS} {a1 : Int32} {I : QI} {J : QJ} {post : Int32 → QI → QJ → Prop} (hS : Sh S) (h : wL_rewrite a1 I J post) : CX X mL_rewrite 65 1 6 [.ref 0, .int a1, .ref 79] S I J (q_Pi S (fun r I2 J2 => post r I2 J2)) := by
  refine CX.of (lo := [(0, .ref 0), (1, .int a1), (2, .ref 79)]) ok_mL_rewrite rfl (Nat.le_of_ble_eq_true rfl) rfl ?_
  replace h : (wX7_rewrite a1 I (fun r2 I1 => (vp_in 0 1 ∧ (∀ J4 : QJ, J4 = q_u2 J 79 (0 : Int32).toNatClampNeg ((r2).toInt64) → post 0 I1 J4))) (fun E I3 => ((E = "java/lang/IndexOutOfBoundsException" ∧ post 1 I3 J) ∨ (E = "java/lang/IllegalStateException" ∧ post 2 I3 J)))) := h
  refine V_aload_n dL_rewrite_0 rfl rfl ?_
  refine V_iconst (v := 0) dL_rewrite_1 (by decide) ?_
  refine V_aload_n dL_rewrite_2 rfl rfl ?_
  refine V_iload_n dL_rewrite_3 rfl rfl ?_
  refine V_callVx (st := [.int 0, .ref 79]) [.int a1] dL_rewrite_4 ok_mX7_rewrite rfl ml_RL_60 in_mX7_rewrite se_mX7_rewrite (hS.n 0 rfl) (hS.k 0 7 rfl) (by decide) rfl (Nat.le_of_ble_eq_true rfl) (by decide) (by decide) (by decide) (s_mX7_rewrite hS h) (fun r2 I1 J9 h => ?_) (fun E I3 J9 h => ?_)
  · obtain ⟨rfl, h⟩ := h
    refine V_i2l dL_rewrite_7 ?_
    obtain ⟨hb, h⟩ := h
    refine V_last dL_rewrite_8 (hS.n 79 rfl) (hS.k 79 10 rfl) (by rw [(hS.z 79 1 rfl)]; exact hb) ?_
    refine V_memJ (fun J4 e_J4 => ?_)
    replace h := h J4 e_J4
    refine V_goto 18 dL_rewrite_9 rfl ?_
    refine V_iconst (v := 0) dL_rewrite_18 (by decide) ?_
    exact V_iret dL_rewrite_19 rfl (by decide) (by decide) ⟨_, rfl, rfl, h⟩
  · obtain ⟨rfl, h⟩ := h
    rcases h with ⟨rfl, h⟩ | ⟨rfl, h⟩
    · refine VT_catch (i := 3) (lo2 := [(0, .ref 0), (1, .int a1), (2, .ref 79)]) [] ⟨0, 9, 12, 21⟩ [⟨0, 9, 15, 15⟩] rfl (by decide) (fun z hz => nomatch hz) (by decide) (by decide) cl_RL_21 dL_rewrite_12 (Or.inr ⟨_, rfl, rfl, rfl⟩) (by decide) rfl ?_
      refine V_iconst (v := 1) dL_rewrite_13 (by decide) ?_
      exact V_iret dL_rewrite_14 rfl (by decide) (by decide) ⟨_, rfl, rfl, h⟩
    · refine VT_catch (i := 3) (lo2 := [(0, .ref 0), (1, .int a1), (2, .ref 79)]) [⟨0, 9, 12, 21⟩] ⟨0, 9, 15, 15⟩ [] rfl (by decide) (fun z hz => by simp only [List.mem_cons, List.not_mem_nil, or_false] at hz; rcases hz with rfl <;> first | exact Or.inr ⟨by decide, "java/lang/IndexOutOfBoundsException", by decide, by decide, cl_RL_21⟩) (by decide) (by decide) cl_RL_15 dL_rewrite_15 (Or.inr ⟨_, rfl, rfl, rfl⟩) (by decide) rfl ?_
      refine V_iconst (v := 2) dL_rewrite_16 (by decide) ?_
      exact V_iret dL_rewrite_17 rfl (by decide) (by decide) ⟨_, rfl, rfl, h⟩
