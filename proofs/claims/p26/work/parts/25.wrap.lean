def wL_cell (X : QX) (a1 : Int32) (I : QI) (post : Int32 → Prop) : Prop := (((Int32.ofNat X.2.1.2.1) ≤ a1 → post ((7919 * (a1 + 1753)) * (a1 + 187))) ∧ (¬ (Int32.ofNat X.2.1.2.1) ≤ a1 → (vp_in a1 X.2.1.2.1 ∧ post (X.2.1.2.2 (a1).toNatClampNeg))))
set_option maxRecDepth 100000 in
set_option maxHeartbeats 4000000 in
theorem s_mL_cell {X : QX} {S : QS} {a1 : Int32} {I : QI} {J : QJ} {post : Int32 → Prop} (hScr : S.1 1000000 = X.2.1.1) (h : wL_cell X a1 I post) : CX X mL_cell 0 0 0 [.ref 1000000, .int a1] S I J (q_Pi S (fun r I2 J2 => I = I2 ∧ J = J2 ∧ post r)) := by
  refine CX.of (lo := [(0, .ref 1000000), (1, .int a1)]) ok_mL_cell rfl (Nat.le_of_ble_eq_true rfl) rfl ?_
  replace h : (((Int32.ofNat X.2.1.2.1) ≤ a1 → post ((7919 * (a1 + 1753)) * (a1 + 187))) ∧ (¬ (Int32.ofNat X.2.1.2.1) ≤ a1 → (vp_in a1 X.2.1.2.1 ∧ post (X.2.1.2.2 (a1).toNatClampNeg)))) := h
  refine V_iload_n dL_cell_0 rfl rfl ?_
  refine V_aload_n dL_cell_1 rfl rfl ?_
  refine V_slen dL_cell_2 hScr ?_
  refine V_icmp_ge 12 dL_cell_3 rfl (fun hc => ?_) (fun hc => ?_)
  · replace h := h.1 hc
    refine V_sipush (v := 7919) dL_cell_12 (by decide) ?_
    refine V_iload_n dL_cell_15 rfl rfl ?_
    refine V_sipush (v := 1753) dL_cell_16 (by decide) ?_
    refine V_iadd dL_cell_19 ?_
    refine V_imul dL_cell_20 ?_
    refine V_iload_n dL_cell_21 rfl rfl ?_
    refine V_sipush (v := 187) dL_cell_22 (by decide) ?_
    refine V_iadd dL_cell_25 ?_
    refine V_imul dL_cell_26 ?_
    exact V_iret dL_cell_27 rfl (by decide) (by decide) ⟨_, rfl, rfl, rfl, rfl, h⟩
  · replace h := h.2 hc
    refine V_aload_n dL_cell_6 rfl rfl ?_
    refine V_iload_n dL_cell_7 rfl rfl ?_
    obtain ⟨hb, h⟩ := h
    refine V_sld dL_cell_8 hScr hb ?_
    refine V_goto 27 dL_cell_9 rfl ?_
    exact V_iret dL_cell_27 rfl (by decide) (by decide) ⟨_, rfl, rfl, rfl, rfl, h⟩
def wL_low (a0 : Int32) (a1 : Int32) (I : QI) (post : Int32 → Prop) : Prop := (¬ a1 = 0 ∧ post ((a0 &&& 2147483647) - (a0 &&& 2147483647) / a1 * a1))
set_option maxRecDepth 100000 in
set_option maxHeartbeats 4000000 in
theorem s_mL_low {X : QX} {S : QS} {a0 : Int32} {a1 : Int32} {I : QI} {J : QJ} {post : Int32 → Prop} (hS : Sh S) (h : wL_low a0 a1 I post) : CX X mL_low 0 0 0 [.int a0, .int a1] S I J (q_Pi S (fun r I2 J2 => I = I2 ∧ J = J2 ∧ post r)) := by
  refine CX.of (lo := [(0, .int a0), (1, .int a1)]) ok_mL_low rfl (Nat.le_of_ble_eq_true rfl) rfl ?_
  replace h : (¬ a1 = 0 ∧ post ((a0 &&& 2147483647) - (a0 &&& 2147483647) / a1 * a1)) := h
  refine V_iload_n dL_low_0 rfl rfl ?_
  refine V_ldc dL_low_1 co_RL_7 ?_
  refine V_iand dL_low_3 ?_
  refine V_iload_n dL_low_4 rfl rfl ?_
  obtain ⟨hb, h⟩ := h
  refine V_irem dL_low_5 hb ?_
  exact V_iret dL_low_6 rfl (by decide) (by decide) ⟨_, rfl, rfl, rfl, rfl, h⟩
def wL_same (a1 : Int32) (a2 : Int32) (I : QI) (post : Int32 → QI → Prop) : Prop := (wX7_same a1 a2 I (fun r2 I1 => ((r2 = 0 → post 0 I1) ∧ (¬ r2 = 0 → post 1 I1))) (fun E I3 => ((E = "java/lang/IndexOutOfBoundsException" ∧ post (-99999) I3) ∨ (E = "java/lang/IllegalStateException" ∧ post (-99999) I3))))
set_option maxRecDepth 100000 in
set_option maxHeartbeats 4000000 in
theorem s_mL_same {X : QX} {S : QS} {a1 : Int32} {a2 : Int32} {I : QI} {J : QJ} {post : Int32 → QI → Prop} (hS : Sh S) (h : wL_same a1 a2 I post) : CX X mL_same 8 1 6 [.ref 0, .int a1, .int a2] S I J (q_Pi S (fun r I2 J2 => J = J2 ∧ post r I2)) := by
  refine CX.of (lo := [(0, .ref 0), (1, .int a1), (2, .int a2)]) ok_mL_same rfl (Nat.le_of_ble_eq_true rfl) rfl ?_
  replace h : (wX7_same a1 a2 I (fun r2 I1 => ((r2 = 0 → post 0 I1) ∧ (¬ r2 = 0 → post 1 I1))) (fun E I3 => ((E = "java/lang/IndexOutOfBoundsException" ∧ post (-99999) I3) ∨ (E = "java/lang/IllegalStateException" ∧ post (-99999) I3)))) := h
  refine V_aload_n dL_same_0 rfl rfl ?_
  refine V_iload_n dL_same_1 rfl rfl ?_
  refine V_iload_n dL_same_2 rfl rfl ?_
  refine V_callVx (st := []) [.int a1, .int a2] dL_same_3 ok_mX7_same rfl ml_RL_52 in_mX7_same se_mX7_same (hS.n 0 rfl) (hS.k 0 7 rfl) (by decide) rfl (Nat.le_of_ble_eq_true rfl) (by decide) (by decide) (by decide) (s_mX7_same hS h) (fun r2 I1 J9 h => ?_) (fun E I3 J9 h => ?_)
  · obtain ⟨rfl, h⟩ := h
    refine V_if_eq 13 dL_same_6 rfl (fun hc => ?_) (fun hc => ?_)
    · replace h := h.1 hc
      refine V_iconst (v := 0) dL_same_13 (by decide) ?_
      exact V_iret dL_same_14 rfl (by decide) (by decide) ⟨_, rfl, rfl, rfl, h⟩
    · replace h := h.2 hc
      refine V_iconst (v := 1) dL_same_9 (by decide) ?_
      refine V_goto 14 dL_same_10 rfl ?_
      exact V_iret dL_same_14 rfl (by decide) (by decide) ⟨_, rfl, rfl, rfl, h⟩
  · obtain ⟨rfl, h⟩ := h
    rcases h with ⟨rfl, h⟩ | ⟨rfl, h⟩
    · refine VT_catch (i := 3) (lo2 := [(0, .ref 0), (1, .int a1), (2, .int a2)]) [] ⟨0, 14, 15, 23⟩ [⟨0, 14, 19, 17⟩] rfl (by decide) (fun z hz => nomatch hz) (by decide) (by decide) cl_RL_23 dL_same_15 (Or.inr ⟨_, rfl, rfl, rfl⟩) (by decide) rfl ?_
      refine V_ldc dL_same_16 co_RL_16 ?_
      exact V_iret dL_same_18 rfl (by decide) (by decide) ⟨_, rfl, rfl, rfl, h⟩
    · refine VT_catch (i := 3) (lo2 := [(0, .ref 0), (1, .int a1), (2, .int a2)]) [⟨0, 14, 15, 23⟩] ⟨0, 14, 19, 17⟩ [] rfl (by decide) (fun z hz => by simp only [List.mem_cons, List.not_mem_nil, or_false] at hz; rcases hz with rfl <;> first | exact Or.inr ⟨by decide, "java/lang/IndexOutOfBoundsException", by decide, by decide, cl_RL_23⟩) (by decide) (by decide) cl_RL_17 dL_same_19 (Or.inr ⟨_, rfl, rfl, rfl⟩) (by decide) rfl ?_
      refine V_ldc dL_same_20 co_RL_16 ?_
      exact V_iret dL_same_22 rfl (by decide) (by decide) ⟨_, rfl, rfl, rfl, h⟩
def wL_rewrite (a1 : Int32) (I : QI) (post : Int32 → QI → Prop) : Prop := (wX7_rewrite a1 I (fun r2 I1 => post r2 I1) (fun E I3 => ((E = "java/lang/IndexOutOfBoundsException" ∧ post (-99999) I3) ∨ (E = "java/lang/IllegalStateException" ∧ post (-99999) I3))))
set_option maxRecDepth 100000 in
set_option maxHeartbeats 4000000 in
theorem s_mL_rewrite {X : QX} {S : QS} {a1 : Int32} {I : QI} {J : QJ} {post : Int32 → QI → Prop} (hS : Sh S) (h : wL_rewrite a1 I post) : CX X mL_rewrite 65 1 6 [.ref 0, .int a1] S I J (q_Pi S (fun r I2 J2 => J = J2 ∧ post r I2)) := by
  refine CX.of (lo := [(0, .ref 0), (1, .int a1)]) ok_mL_rewrite rfl (Nat.le_of_ble_eq_true rfl) rfl ?_
  replace h : (wX7_rewrite a1 I (fun r2 I1 => post r2 I1) (fun E I3 => ((E = "java/lang/IndexOutOfBoundsException" ∧ post (-99999) I3) ∨ (E = "java/lang/IllegalStateException" ∧ post (-99999) I3)))) := h
  refine V_aload_n dL_rewrite_0 rfl rfl ?_
  refine V_iload_n dL_rewrite_1 rfl rfl ?_
  refine V_callVx (st := []) [.int a1] dL_rewrite_2 ok_mX7_rewrite rfl ml_RL_62 in_mX7_rewrite se_mX7_rewrite (hS.n 0 rfl) (hS.k 0 7 rfl) (by decide) rfl (Nat.le_of_ble_eq_true rfl) (by decide) (by decide) (by decide) (s_mX7_rewrite hS h) (fun r2 I1 J9 h => ?_) (fun E I3 J9 h => ?_)
  · obtain ⟨rfl, h⟩ := h
    exact V_iret dL_rewrite_5 rfl (by decide) (by decide) ⟨_, rfl, rfl, rfl, h⟩
  · obtain ⟨rfl, h⟩ := h
    rcases h with ⟨rfl, h⟩ | ⟨rfl, h⟩
    · refine VT_catch (i := 2) (lo2 := [(0, .ref 0), (1, .int a1)]) [] ⟨0, 5, 6, 23⟩ [⟨0, 5, 10, 17⟩] rfl (by decide) (fun z hz => nomatch hz) (by decide) (by decide) cl_RL_23 dL_rewrite_6 (Or.inr ⟨_, rfl, rfl, rfl⟩) (by decide) rfl ?_
      refine V_ldc dL_rewrite_7 co_RL_16 ?_
      exact V_iret dL_rewrite_9 rfl (by decide) (by decide) ⟨_, rfl, rfl, rfl, h⟩
    · refine VT_catch (i := 2) (lo2 := [(0, .ref 0), (1, .int a1)]) [⟨0, 5, 6, 23⟩] ⟨0, 5, 10, 17⟩ [] rfl (by decide) (fun z hz => by simp only [List.mem_cons, List.not_mem_nil, or_false] at hz; rcases hz with rfl <;> first | exact Or.inr ⟨by decide, "java/lang/IndexOutOfBoundsException", by decide, by decide, cl_RL_23⟩) (by decide) (by decide) cl_RL_17 dL_rewrite_10 (Or.inr ⟨_, rfl, rfl, rfl⟩) (by decide) rfl ?_
      refine V_ldc dL_rewrite_11 co_RL_16 ?_
      exact V_iret dL_rewrite_13 rfl (by decide) (by decide) ⟨_, rfl, rfl, rfl, h⟩
def wL_table (a1 : Int32) (I : QI) (post : Int32 → QI → Prop) : Prop := (wX7_table a1 I (fun r2 I1 => post r2 I1) (fun E I3 => ((E = "java/lang/IllegalArgumentException" ∧ post (-99999) I3) ∨ (E = "java/lang/IllegalStateException" ∧ post (-99999) I3))))
set_option maxRecDepth 100000 in
set_option maxHeartbeats 4000000 in
theorem s_mL_table {X : QX} {S : QS} {a1 : Int32} {I : QI} {J : QJ} {post : Int32 → QI → Prop} (hS : Sh S) (h : wL_table a1 I post) : CX X mL_table 3 1 6 [.ref 0, .int a1] S I J (q_Pi S (fun r I2 J2 => J = J2 ∧ post r I2)) := by
  refine CX.of (lo := [(0, .ref 0), (1, .int a1)]) ok_mL_table rfl (Nat.le_of_ble_eq_true rfl) rfl ?_
  replace h : (wX7_table a1 I (fun r2 I1 => post r2 I1) (fun E I3 => ((E = "java/lang/IllegalArgumentException" ∧ post (-99999) I3) ∨ (E = "java/lang/IllegalStateException" ∧ post (-99999) I3)))) := h
  refine V_aload_n dL_table_0 rfl rfl ?_
  refine V_iload_n dL_table_1 rfl rfl ?_
  refine V_callVx (st := []) [.int a1] dL_table_2 ok_mX7_table rfl ml_RL_8 in_mX7_table se_mX7_table (hS.n 0 rfl) (hS.k 0 7 rfl) (by decide) rfl (Nat.le_of_ble_eq_true rfl) (by decide) (by decide) (by decide) (s_mX7_table hS h) (fun r2 I1 J9 h => ?_) (fun E I3 J9 h => ?_)
  · obtain ⟨rfl, h⟩ := h
    exact V_iret dL_table_5 rfl (by decide) (by decide) ⟨_, rfl, rfl, rfl, h⟩
  · obtain ⟨rfl, h⟩ := h
    rcases h with ⟨rfl, h⟩ | ⟨rfl, h⟩
    · refine VT_catch (i := 2) (lo2 := [(0, .ref 0), (1, .int a1)]) [] ⟨0, 5, 6, 14⟩ [⟨0, 5, 10, 17⟩] rfl (by decide) (fun z hz => nomatch hz) (by decide) (by decide) cl_RL_14 dL_table_6 (Or.inr ⟨_, rfl, rfl, rfl⟩) (by decide) rfl ?_
      refine V_ldc dL_table_7 co_RL_16 ?_
      exact V_iret dL_table_9 rfl (by decide) (by decide) ⟨_, rfl, rfl, rfl, h⟩
    · refine VT_catch (i := 2) (lo2 := [(0, .ref 0), (1, .int a1)]) [⟨0, 5, 6, 14⟩] ⟨0, 5, 10, 17⟩ [] rfl (by decide) (fun z hz => by simp only [List.mem_cons, List.not_mem_nil, or_false] at hz; rcases hz with rfl <;> first | exact Or.inr ⟨by decide, "java/lang/IllegalArgumentException", by decide, by decide, cl_RL_14⟩) (by decide) (by decide) cl_RL_17 dL_table_10 (Or.inr ⟨_, rfl, rfl, rfl⟩) (by decide) rfl ?_
      refine V_ldc dL_table_11 co_RL_16 ?_
      exact V_iret dL_table_13 rfl (by decide) (by decide) ⟨_, rfl, rfl, rfl, h⟩
def wL_add (a1 : Int32) (a2 : Int32) (a3 : Int32) (a4 : Int32) (I : QI) (post : Int32 → QI → Prop) : Prop := (wX7_add a1 a2 a3 a4 I (fun r2 I1 => post r2 I1) (fun E I3 => ((E = "java/lang/IndexOutOfBoundsException" ∧ post (-99999) I3) ∨ (E = "java/lang/IllegalArgumentException" ∧ post (-99999) I3) ∨ (E = "java/lang/IllegalStateException" ∧ post (-99999) I3))))
set_option maxRecDepth 100000 in
set_option maxHeartbeats 4000000 in
theorem s_mL_add {X : QX} {S : QS} {a1 : Int32} {a2 : Int32} {a3 : Int32} {a4 : Int32} {I : QI} {J : QJ} {post : Int32 → QI → Prop} (hS : Sh S) (h : wL_add a1 a2 a3 a4 I post) : CX X mL_add 4 1 6 [.ref 0, .int a1, .int a2, .int a3, .int a4] S I J (q_Pi S (fun r I2 J2 => J = J2 ∧ post r I2)) := by
  refine CX.of (lo := [(0, .ref 0), (1, .int a1), (2, .int a2), (3, .int a3), (4, .int a4)]) ok_mL_add rfl (Nat.le_of_ble_eq_true rfl) rfl ?_
  replace h : (wX7_add a1 a2 a3 a4 I (fun r2 I1 => post r2 I1) (fun E I3 => ((E = "java/lang/IndexOutOfBoundsException" ∧ post (-99999) I3) ∨ (E = "java/lang/IllegalArgumentException" ∧ post (-99999) I3) ∨ (E = "java/lang/IllegalStateException" ∧ post (-99999) I3)))) := h
  refine V_aload_n dL_add_0 rfl rfl ?_
  refine V_iload_n dL_add_1 rfl rfl ?_
  refine V_iload_n dL_add_2 rfl rfl ?_
  refine V_iload_n dL_add_3 rfl rfl ?_
  refine V_iload dL_add_4 rfl ?_
  refine V_callVx (st := []) [.int a1, .int a2, .int a3, .int a4] dL_add_6 ok_mX7_add rfl ml_RL_19 in_mX7_add se_mX7_add (hS.n 0 rfl) (hS.k 0 7 rfl) (by decide) rfl (Nat.le_of_ble_eq_true rfl) (by decide) (by decide) (by decide) (s_mX7_add hS h) (fun r2 I1 J9 h => ?_) (fun E I3 J9 h => ?_)
  · obtain ⟨rfl, h⟩ := h
    exact V_iret dL_add_9 rfl (by decide) (by decide) ⟨_, rfl, rfl, rfl, h⟩
  · obtain ⟨rfl, h⟩ := h
    rcases h with ⟨rfl, h⟩ | ⟨rfl, h⟩ | ⟨rfl, h⟩
    · refine VT_catch (i := 5) (lo2 := [(0, .ref 0), (1, .int a1), (2, .int a2), (3, .int a3), (4, .int a4)]) [] ⟨0, 9, 10, 23⟩ [⟨0, 9, 15, 14⟩, ⟨0, 9, 20, 17⟩] rfl (by decide) (fun z hz => nomatch hz) (by decide) (by decide) cl_RL_23 dL_add_10 (Or.inl ⟨rfl, rfl⟩) (by decide) rfl ?_
      refine V_ldc dL_add_12 co_RL_16 ?_
      exact V_iret dL_add_14 rfl (by decide) (by decide) ⟨_, rfl, rfl, rfl, h⟩
    · refine VT_catch (i := 5) (lo2 := [(0, .ref 0), (1, .int a1), (2, .int a2), (3, .int a3), (4, .int a4)]) [⟨0, 9, 10, 23⟩] ⟨0, 9, 15, 14⟩ [⟨0, 9, 20, 17⟩] rfl (by decide) (fun z hz => by simp only [List.mem_cons, List.not_mem_nil, or_false] at hz; rcases hz with rfl <;> first | exact Or.inr ⟨by decide, "java/lang/IndexOutOfBoundsException", by decide, by decide, cl_RL_23⟩) (by decide) (by decide) cl_RL_14 dL_add_15 (Or.inl ⟨rfl, rfl⟩) (by decide) rfl ?_
      refine V_ldc dL_add_17 co_RL_16 ?_
      exact V_iret dL_add_19 rfl (by decide) (by decide) ⟨_, rfl, rfl, rfl, h⟩
    · refine VT_catch (i := 5) (lo2 := [(0, .ref 0), (1, .int a1), (2, .int a2), (3, .int a3), (4, .int a4)]) [⟨0, 9, 10, 23⟩, ⟨0, 9, 15, 14⟩] ⟨0, 9, 20, 17⟩ [] rfl (by decide) (fun z hz => by simp only [List.mem_cons, List.not_mem_nil, or_false] at hz; rcases hz with rfl | rfl <;> first | exact Or.inr ⟨by decide, "java/lang/IndexOutOfBoundsException", by decide, by decide, cl_RL_23⟩ | exact Or.inr ⟨by decide, "java/lang/IllegalArgumentException", by decide, by decide, cl_RL_14⟩) (by decide) (by decide) cl_RL_17 dL_add_20 (Or.inl ⟨rfl, rfl⟩) (by decide) rfl ?_
      refine V_ldc dL_add_22 co_RL_16 ?_
      exact V_iret dL_add_24 rfl (by decide) (by decide) ⟨_, rfl, rfl, rfl, h⟩
def wL_take (a1 : Int32) (a2 : Int32) (I : QI) (post : Int32 → QI → Prop) : Prop := (wX7_take a1 a2 I (fun r2 I1 => post r2 I1) (fun E I3 => ((E = "java/lang/IndexOutOfBoundsException" ∧ post (-99999) I3))))
set_option maxRecDepth 100000 in
set_option maxHeartbeats 4000000 in
theorem s_mL_take {X : QX} {S : QS} {a1 : Int32} {a2 : Int32} {I : QI} {J : QJ} {post : Int32 → QI → Prop} (hS : Sh S) (h : wL_take a1 a2 I post) : CX X mL_take 2 1 6 [.ref 0, .int a1, .int a2] S I J (q_Pi S (fun r I2 J2 => J = J2 ∧ post r I2)) := by
  refine CX.of (lo := [(0, .ref 0), (1, .int a1), (2, .int a2)]) ok_mL_take rfl (Nat.le_of_ble_eq_true rfl) rfl ?_
  replace h : (wX7_take a1 a2 I (fun r2 I1 => post r2 I1) (fun E I3 => ((E = "java/lang/IndexOutOfBoundsException" ∧ post (-99999) I3)))) := h
  refine V_aload_n dL_take_0 rfl rfl ?_
  refine V_iload_n dL_take_1 rfl rfl ?_
  refine V_iload_n dL_take_2 rfl rfl ?_
  refine V_callVx (st := []) [.int a1, .int a2] dL_take_3 ok_mX7_take rfl ml_RL_25 in_mX7_take se_mX7_take (hS.n 0 rfl) (hS.k 0 7 rfl) (by decide) rfl (Nat.le_of_ble_eq_true rfl) (by decide) (by decide) (by decide) (s_mX7_take hS h) (fun r2 I1 J9 h => ?_) (fun E I3 J9 h => ?_)
  · obtain ⟨rfl, h⟩ := h
    exact V_iret dL_take_6 rfl (by decide) (by decide) ⟨_, rfl, rfl, rfl, h⟩
  · obtain ⟨rfl, h⟩ := h
    obtain ⟨rfl, h⟩ := h
    refine VT_catch (i := 3) (lo2 := [(0, .ref 0), (1, .int a1), (2, .int a2)]) [] ⟨0, 6, 7, 23⟩ [] rfl (by decide) (fun z hz => nomatch hz) (by decide) (by decide) cl_RL_23 dL_take_7 (Or.inr ⟨_, rfl, rfl, rfl⟩) (by decide) rfl ?_
    refine V_ldc dL_take_8 co_RL_16 ?_
    exact V_iret dL_take_10 rfl (by decide) (by decide) ⟨_, rfl, rfl, rfl, h⟩
def wL_scan (a1 : Int32) (I : QI) (post : Int32 → QI → Prop) : Prop := (wX7_scan a1 I (fun r2 I1 => post r2 I1) (fun E I3 => ((E = "java/lang/IndexOutOfBoundsException" ∧ post (-99999) I3) ∨ (E = "java/lang/IllegalStateException" ∧ post (-99999) I3))))
set_option maxRecDepth 100000 in
set_option maxHeartbeats 4000000 in
theorem s_mL_scan {X : QX} {S : QS} {a1 : Int32} {I : QI} {J : QJ} {post : Int32 → QI → Prop} (hS : Sh S) (h : wL_scan a1 I post) : CX X mL_scan 4 1 6 [.ref 0, .int a1] S I J (q_Pi S (fun r I2 J2 => J = J2 ∧ post r I2)) := by
  refine CX.of (lo := [(0, .ref 0), (1, .int a1)]) ok_mL_scan rfl (Nat.le_of_ble_eq_true rfl) rfl ?_
  replace h : (wX7_scan a1 I (fun r2 I1 => post r2 I1) (fun E I3 => ((E = "java/lang/IndexOutOfBoundsException" ∧ post (-99999) I3) ∨ (E = "java/lang/IllegalStateException" ∧ post (-99999) I3)))) := h
  refine V_aload_n dL_scan_0 rfl rfl ?_
  refine V_iload_n dL_scan_1 rfl rfl ?_
  refine V_callVx (st := []) [.int a1] dL_scan_2 ok_mX7_scan rfl ml_RL_29 in_mX7_scan se_mX7_scan (hS.n 0 rfl) (hS.k 0 7 rfl) (by decide) rfl (Nat.le_of_ble_eq_true rfl) (by decide) (by decide) (by decide) (s_mX7_scan hS h) (fun r2 I1 J9 h => ?_) (fun E I3 J9 h => ?_)
  · obtain ⟨rfl, h⟩ := h
    exact V_iret dL_scan_5 rfl (by decide) (by decide) ⟨_, rfl, rfl, rfl, h⟩
  · obtain ⟨rfl, h⟩ := h
    rcases h with ⟨rfl, h⟩ | ⟨rfl, h⟩
    · refine VT_catch (i := 2) (lo2 := [(0, .ref 0), (1, .int a1)]) [] ⟨0, 5, 6, 23⟩ [⟨0, 5, 10, 17⟩] rfl (by decide) (fun z hz => nomatch hz) (by decide) (by decide) cl_RL_23 dL_scan_6 (Or.inr ⟨_, rfl, rfl, rfl⟩) (by decide) rfl ?_
      refine V_ldc dL_scan_7 co_RL_16 ?_
      exact V_iret dL_scan_9 rfl (by decide) (by decide) ⟨_, rfl, rfl, rfl, h⟩
    · refine VT_catch (i := 2) (lo2 := [(0, .ref 0), (1, .int a1)]) [⟨0, 5, 6, 23⟩] ⟨0, 5, 10, 17⟩ [] rfl (by decide) (fun z hz => by simp only [List.mem_cons, List.not_mem_nil, or_false] at hz; rcases hz with rfl <;> first | exact Or.inr ⟨by decide, "java/lang/IndexOutOfBoundsException", by decide, by decide, cl_RL_23⟩) (by decide) (by decide) cl_RL_17 dL_scan_10 (Or.inr ⟨_, rfl, rfl, rfl⟩) (by decide) rfl ?_
      refine V_ldc dL_scan_11 co_RL_16 ?_
      exact V_iret dL_scan_13 rfl (by decide) (by decide) ⟨_, rfl, rfl, rfl, h⟩
def wL_filter (a1 : Int32) (a2 : Int32) (a3 : Int32) (a4 : Int32) (I : QI) (post : Int32 → QI → Prop) : Prop := (wX7_filter a1 a2 a3 a4 I (fun r2 I1 => post r2 I1) (fun E I3 => ((E = "java/lang/IndexOutOfBoundsException" ∧ post (-99999) I3) ∨ (E = "java/lang/IllegalArgumentException" ∧ post (-99999) I3) ∨ (E = "java/lang/IllegalStateException" ∧ post (-99999) I3))))
set_option maxRecDepth 100000 in
set_option maxHeartbeats 4000000 in
theorem s_mL_filter {X : QX} {S : QS} {a1 : Int32} {a2 : Int32} {a3 : Int32} {a4 : Int32} {I : QI} {J : QJ} {post : Int32 → QI → Prop} (hS : Sh S) (h : wL_filter a1 a2 a3 a4 I post) : CX X mL_filter 4 1 6 [.ref 0, .int a1, .int a2, .int a3, .int a4] S I J (q_Pi S (fun r I2 J2 => J = J2 ∧ post r I2)) := by
  refine CX.of (lo := [(0, .ref 0), (1, .int a1), (2, .int a2), (3, .int a3), (4, .int a4)]) ok_mL_filter rfl (Nat.le_of_ble_eq_true rfl) rfl ?_
  replace h : (wX7_filter a1 a2 a3 a4 I (fun r2 I1 => post r2 I1) (fun E I3 => ((E = "java/lang/IndexOutOfBoundsException" ∧ post (-99999) I3) ∨ (E = "java/lang/IllegalArgumentException" ∧ post (-99999) I3) ∨ (E = "java/lang/IllegalStateException" ∧ post (-99999) I3)))) := h
  refine V_aload_n dL_filter_0 rfl rfl ?_
  refine V_iload_n dL_filter_1 rfl rfl ?_
  refine V_iload_n dL_filter_2 rfl rfl ?_
  refine V_iload_n dL_filter_3 rfl rfl ?_
  refine V_iload dL_filter_4 rfl ?_
  refine V_callVx (st := []) [.int a1, .int a2, .int a3, .int a4] dL_filter_6 ok_mX7_filter rfl ml_RL_32 in_mX7_filter se_mX7_filter (hS.n 0 rfl) (hS.k 0 7 rfl) (by decide) rfl (Nat.le_of_ble_eq_true rfl) (by decide) (by decide) (by decide) (s_mX7_filter hS h) (fun r2 I1 J9 h => ?_) (fun E I3 J9 h => ?_)
  · obtain ⟨rfl, h⟩ := h
    exact V_iret dL_filter_9 rfl (by decide) (by decide) ⟨_, rfl, rfl, rfl, h⟩
  · obtain ⟨rfl, h⟩ := h
    rcases h with ⟨rfl, h⟩ | ⟨rfl, h⟩ | ⟨rfl, h⟩
    · refine VT_catch (i := 5) (lo2 := [(0, .ref 0), (1, .int a1), (2, .int a2), (3, .int a3), (4, .int a4)]) [] ⟨0, 9, 10, 23⟩ [⟨0, 9, 15, 14⟩, ⟨0, 9, 20, 17⟩] rfl (by decide) (fun z hz => nomatch hz) (by decide) (by decide) cl_RL_23 dL_filter_10 (Or.inl ⟨rfl, rfl⟩) (by decide) rfl ?_
      refine V_ldc dL_filter_12 co_RL_16 ?_
      exact V_iret dL_filter_14 rfl (by decide) (by decide) ⟨_, rfl, rfl, rfl, h⟩
    · refine VT_catch (i := 5) (lo2 := [(0, .ref 0), (1, .int a1), (2, .int a2), (3, .int a3), (4, .int a4)]) [⟨0, 9, 10, 23⟩] ⟨0, 9, 15, 14⟩ [⟨0, 9, 20, 17⟩] rfl (by decide) (fun z hz => by simp only [List.mem_cons, List.not_mem_nil, or_false] at hz; rcases hz with rfl <;> first | exact Or.inr ⟨by decide, "java/lang/IndexOutOfBoundsException", by decide, by decide, cl_RL_23⟩) (by decide) (by decide) cl_RL_14 dL_filter_15 (Or.inl ⟨rfl, rfl⟩) (by decide) rfl ?_
      refine V_ldc dL_filter_17 co_RL_16 ?_
      exact V_iret dL_filter_19 rfl (by decide) (by decide) ⟨_, rfl, rfl, rfl, h⟩
    · refine VT_catch (i := 5) (lo2 := [(0, .ref 0), (1, .int a1), (2, .int a2), (3, .int a3), (4, .int a4)]) [⟨0, 9, 10, 23⟩, ⟨0, 9, 15, 14⟩] ⟨0, 9, 20, 17⟩ [] rfl (by decide) (fun z hz => by simp only [List.mem_cons, List.not_mem_nil, or_false] at hz; rcases hz with rfl | rfl <;> first | exact Or.inr ⟨by decide, "java/lang/IndexOutOfBoundsException", by decide, by decide, cl_RL_23⟩ | exact Or.inr ⟨by decide, "java/lang/IllegalArgumentException", by decide, by decide, cl_RL_14⟩) (by decide) (by decide) cl_RL_17 dL_filter_20 (Or.inl ⟨rfl, rfl⟩) (by decide) rfl ?_
      refine V_ldc dL_filter_22 co_RL_16 ?_
      exact V_iret dL_filter_24 rfl (by decide) (by decide) ⟨_, rfl, rfl, rfl, h⟩
def wL_join (a1 : Int32) (a2 : Int32) (a3 : Int32) (a4 : Int32) (a5 : Int32) (I : QI) (post : Int32 → QI → Prop) : Prop := (wX7_join a1 a2 a3 a4 a5 I (fun r2 I1 => post r2 I1) (fun E I3 => ((E = "java/lang/IndexOutOfBoundsException" ∧ post (-99999) I3) ∨ (E = "java/lang/IllegalArgumentException" ∧ post (-99999) I3) ∨ (E = "java/lang/IllegalStateException" ∧ post (-99999) I3))))
set_option maxRecDepth 100000 in
set_option maxHeartbeats 4000000 in
theorem s_mL_join {X : QX} {S : QS} {a1 : Int32} {a2 : Int32} {a3 : Int32} {a4 : Int32} {a5 : Int32} {I : QI} {J : QJ} {post : Int32 → QI → Prop} (hS : Sh S) (h : wL_join a1 a2 a3 a4 a5 I post) : CX X mL_join 4 1 6 [.ref 0, .int a1, .int a2, .int a3, .int a4, .int a5] S I J (q_Pi S (fun r I2 J2 => J = J2 ∧ post r I2)) := by
  refine CX.of (lo := [(0, .ref 0), (1, .int a1), (2, .int a2), (3, .int a3), (4, .int a4), (5, .int a5)]) ok_mL_join rfl (Nat.le_of_ble_eq_true rfl) rfl ?_
  replace h : (wX7_join a1 a2 a3 a4 a5 I (fun r2 I1 => post r2 I1) (fun E I3 => ((E = "java/lang/IndexOutOfBoundsException" ∧ post (-99999) I3) ∨ (E = "java/lang/IllegalArgumentException" ∧ post (-99999) I3) ∨ (E = "java/lang/IllegalStateException" ∧ post (-99999) I3)))) := h
  refine V_aload_n dL_join_0 rfl rfl ?_
  refine V_iload_n dL_join_1 rfl rfl ?_
  refine V_iload_n dL_join_2 rfl rfl ?_
  refine V_iload_n dL_join_3 rfl rfl ?_
  refine V_iload dL_join_4 rfl ?_
  refine V_iload dL_join_6 rfl ?_
  refine V_callVx (st := []) [.int a1, .int a2, .int a3, .int a4, .int a5] dL_join_8 ok_mX7_join rfl ml_RL_35 in_mX7_join se_mX7_join (hS.n 0 rfl) (hS.k 0 7 rfl) (by decide) rfl (Nat.le_of_ble_eq_true rfl) (by decide) (by decide) (by decide) (s_mX7_join hS h) (fun r2 I1 J9 h => ?_) (fun E I3 J9 h => ?_)
  · obtain ⟨rfl, h⟩ := h
    exact V_iret dL_join_11 rfl (by decide) (by decide) ⟨_, rfl, rfl, rfl, h⟩
  · obtain ⟨rfl, h⟩ := h
    rcases h with ⟨rfl, h⟩ | ⟨rfl, h⟩ | ⟨rfl, h⟩
    · refine VT_catch (i := 6) (lo2 := [(0, .ref 0), (1, .int a1), (2, .int a2), (3, .int a3), (4, .int a4), (5, .int a5)]) [] ⟨0, 11, 12, 23⟩ [⟨0, 11, 17, 14⟩, ⟨0, 11, 22, 17⟩] rfl (by decide) (fun z hz => nomatch hz) (by decide) (by decide) cl_RL_23 dL_join_12 (Or.inl ⟨rfl, rfl⟩) (by decide) rfl ?_
      refine V_ldc dL_join_14 co_RL_16 ?_
      exact V_iret dL_join_16 rfl (by decide) (by decide) ⟨_, rfl, rfl, rfl, h⟩
    · refine VT_catch (i := 6) (lo2 := [(0, .ref 0), (1, .int a1), (2, .int a2), (3, .int a3), (4, .int a4), (5, .int a5)]) [⟨0, 11, 12, 23⟩] ⟨0, 11, 17, 14⟩ [⟨0, 11, 22, 17⟩] rfl (by decide) (fun z hz => by simp only [List.mem_cons, List.not_mem_nil, or_false] at hz; rcases hz with rfl <;> first | exact Or.inr ⟨by decide, "java/lang/IndexOutOfBoundsException", by decide, by decide, cl_RL_23⟩) (by decide) (by decide) cl_RL_14 dL_join_17 (Or.inl ⟨rfl, rfl⟩) (by decide) rfl ?_
      refine V_ldc dL_join_19 co_RL_16 ?_
      exact V_iret dL_join_21 rfl (by decide) (by decide) ⟨_, rfl, rfl, rfl, h⟩
    · refine VT_catch (i := 6) (lo2 := [(0, .ref 0), (1, .int a1), (2, .int a2), (3, .int a3), (4, .int a4), (5, .int a5)]) [⟨0, 11, 12, 23⟩, ⟨0, 11, 17, 14⟩] ⟨0, 11, 22, 17⟩ [] rfl (by decide) (fun z hz => by simp only [List.mem_cons, List.not_mem_nil, or_false] at hz; rcases hz with rfl | rfl <;> first | exact Or.inr ⟨by decide, "java/lang/IndexOutOfBoundsException", by decide, by decide, cl_RL_23⟩ | exact Or.inr ⟨by decide, "java/lang/IllegalArgumentException", by decide, by decide, cl_RL_14⟩) (by decide) (by decide) cl_RL_17 dL_join_22 (Or.inl ⟨rfl, rfl⟩) (by decide) rfl ?_
      refine V_ldc dL_join_24 co_RL_16 ?_
      exact V_iret dL_join_26 rfl (by decide) (by decide) ⟨_, rfl, rfl, rfl, h⟩
def wL_group (a1 : Int32) (a2 : Int32) (a3 : Int32) (a4 : Int32) (I : QI) (post : Int32 → QI → Prop) : Prop := (wX7_group a1 a2 a3 a4 I (fun r2 I1 => post r2 I1) (fun E I3 => ((E = "java/lang/IndexOutOfBoundsException" ∧ post (-99999) I3) ∨ (E = "java/lang/IllegalArgumentException" ∧ post (-99999) I3) ∨ (E = "java/lang/IllegalStateException" ∧ post (-99999) I3))))
set_option maxRecDepth 100000 in
set_option maxHeartbeats 4000000 in
theorem s_mL_group {X : QX} {S : QS} {a1 : Int32} {a2 : Int32} {a3 : Int32} {a4 : Int32} {I : QI} {J : QJ} {post : Int32 → QI → Prop} (hS : Sh S) (h : wL_group a1 a2 a3 a4 I post) : CX X mL_group 4 1 6 [.ref 0, .int a1, .int a2, .int a3, .int a4] S I J (q_Pi S (fun r I2 J2 => J = J2 ∧ post r I2)) := by
  refine CX.of (lo := [(0, .ref 0), (1, .int a1), (2, .int a2), (3, .int a3), (4, .int a4)]) ok_mL_group rfl (Nat.le_of_ble_eq_true rfl) rfl ?_
  replace h : (wX7_group a1 a2 a3 a4 I (fun r2 I1 => post r2 I1) (fun E I3 => ((E = "java/lang/IndexOutOfBoundsException" ∧ post (-99999) I3) ∨ (E = "java/lang/IllegalArgumentException" ∧ post (-99999) I3) ∨ (E = "java/lang/IllegalStateException" ∧ post (-99999) I3)))) := h
  refine V_aload_n dL_group_0 rfl rfl ?_
  refine V_iload_n dL_group_1 rfl rfl ?_
  refine V_iload_n dL_group_2 rfl rfl ?_
  refine V_iload_n dL_group_3 rfl rfl ?_
  refine V_iload dL_group_4 rfl ?_
  refine V_callVx (st := []) [.int a1, .int a2, .int a3, .int a4] dL_group_6 ok_mX7_group rfl ml_RL_39 in_mX7_group se_mX7_group (hS.n 0 rfl) (hS.k 0 7 rfl) (by decide) rfl (Nat.le_of_ble_eq_true rfl) (by decide) (by decide) (by decide) (s_mX7_group hS h) (fun r2 I1 J9 h => ?_) (fun E I3 J9 h => ?_)
  · obtain ⟨rfl, h⟩ := h
    exact V_iret dL_group_9 rfl (by decide) (by decide) ⟨_, rfl, rfl, rfl, h⟩
  · obtain ⟨rfl, h⟩ := h
    rcases h with ⟨rfl, h⟩ | ⟨rfl, h⟩ | ⟨rfl, h⟩
    · refine VT_catch (i := 5) (lo2 := [(0, .ref 0), (1, .int a1), (2, .int a2), (3, .int a3), (4, .int a4)]) [] ⟨0, 9, 10, 23⟩ [⟨0, 9, 15, 14⟩, ⟨0, 9, 20, 17⟩] rfl (by decide) (fun z hz => nomatch hz) (by decide) (by decide) cl_RL_23 dL_group_10 (Or.inl ⟨rfl, rfl⟩) (by decide) rfl ?_
      refine V_ldc dL_group_12 co_RL_16 ?_
      exact V_iret dL_group_14 rfl (by decide) (by decide) ⟨_, rfl, rfl, rfl, h⟩
    · refine VT_catch (i := 5) (lo2 := [(0, .ref 0), (1, .int a1), (2, .int a2), (3, .int a3), (4, .int a4)]) [⟨0, 9, 10, 23⟩] ⟨0, 9, 15, 14⟩ [⟨0, 9, 20, 17⟩] rfl (by decide) (fun z hz => by simp only [List.mem_cons, List.not_mem_nil, or_false] at hz; rcases hz with rfl <;> first | exact Or.inr ⟨by decide, "java/lang/IndexOutOfBoundsException", by decide, by decide, cl_RL_23⟩) (by decide) (by decide) cl_RL_14 dL_group_15 (Or.inl ⟨rfl, rfl⟩) (by decide) rfl ?_
      refine V_ldc dL_group_17 co_RL_16 ?_
      exact V_iret dL_group_19 rfl (by decide) (by decide) ⟨_, rfl, rfl, rfl, h⟩
    · refine VT_catch (i := 5) (lo2 := [(0, .ref 0), (1, .int a1), (2, .int a2), (3, .int a3), (4, .int a4)]) [⟨0, 9, 10, 23⟩, ⟨0, 9, 15, 14⟩] ⟨0, 9, 20, 17⟩ [] rfl (by decide) (fun z hz => by simp only [List.mem_cons, List.not_mem_nil, or_false] at hz; rcases hz with rfl | rfl <;> first | exact Or.inr ⟨by decide, "java/lang/IndexOutOfBoundsException", by decide, by decide, cl_RL_23⟩ | exact Or.inr ⟨by decide, "java/lang/IllegalArgumentException", by decide, by decide, cl_RL_14⟩) (by decide) (by decide) cl_RL_17 dL_group_20 (Or.inl ⟨rfl, rfl⟩) (by decide) rfl ?_
      refine V_ldc dL_group_22 co_RL_16 ?_
      exact V_iret dL_group_24 rfl (by decide) (by decide) ⟨_, rfl, rfl, rfl, h⟩
def wL_bag (a1 : Int32) (a2 : Int32) (a3 : Int32) (I : QI) (post : Int32 → QI → Prop) : Prop := (wX7_bag a1 a2 a3 I (fun r2 I1 => post r2 I1) (fun E I3 => ((E = "java/lang/IndexOutOfBoundsException" ∧ post (-99999) I3) ∨ (E = "java/lang/IllegalArgumentException" ∧ post (-99999) I3) ∨ (E = "java/lang/IllegalStateException" ∧ post (-99999) I3))))
set_option maxRecDepth 100000 in
set_option maxHeartbeats 4000000 in
theorem s_mL_bag {X : QX} {S : QS} {a1 : Int32} {a2 : Int32} {a3 : Int32} {I : QI} {J : QJ} {post : Int32 → QI → Prop} (hS : Sh S) (h : wL_bag a1 a2 a3 I post) : CX X mL_bag 4 1 6 [.ref 0, .int a1, .int a2, .int a3] S I J (q_Pi S (fun r I2 J2 => J = J2 ∧ post r I2)) := by
  refine CX.of (lo := [(0, .ref 0), (1, .int a1), (2, .int a2), (3, .int a3)]) ok_mL_bag rfl (Nat.le_of_ble_eq_true rfl) rfl ?_
  replace h : (wX7_bag a1 a2 a3 I (fun r2 I1 => post r2 I1) (fun E I3 => ((E = "java/lang/IndexOutOfBoundsException" ∧ post (-99999) I3) ∨ (E = "java/lang/IllegalArgumentException" ∧ post (-99999) I3) ∨ (E = "java/lang/IllegalStateException" ∧ post (-99999) I3)))) := h
  refine V_aload_n dL_bag_0 rfl rfl ?_
  refine V_iload_n dL_bag_1 rfl rfl ?_
  refine V_iload_n dL_bag_2 rfl rfl ?_
  refine V_iload_n dL_bag_3 rfl rfl ?_
  refine V_callVx (st := []) [.int a1, .int a2, .int a3] dL_bag_4 ok_mX7_bag rfl ml_RL_42 in_mX7_bag se_mX7_bag (hS.n 0 rfl) (hS.k 0 7 rfl) (by decide) rfl (Nat.le_of_ble_eq_true rfl) (by decide) (by decide) (by decide) (s_mX7_bag hS h) (fun r2 I1 J9 h => ?_) (fun E I3 J9 h => ?_)
  · obtain ⟨rfl, h⟩ := h
    exact V_iret dL_bag_7 rfl (by decide) (by decide) ⟨_, rfl, rfl, rfl, h⟩
  · obtain ⟨rfl, h⟩ := h
    rcases h with ⟨rfl, h⟩ | ⟨rfl, h⟩ | ⟨rfl, h⟩
    · refine VT_catch (i := 4) (lo2 := [(0, .ref 0), (1, .int a1), (2, .int a2), (3, .int a3)]) [] ⟨0, 7, 8, 23⟩ [⟨0, 7, 13, 14⟩, ⟨0, 7, 18, 17⟩] rfl (by decide) (fun z hz => nomatch hz) (by decide) (by decide) cl_RL_23 dL_bag_8 (Or.inl ⟨rfl, rfl⟩) (by decide) rfl ?_
      refine V_ldc dL_bag_10 co_RL_16 ?_
      exact V_iret dL_bag_12 rfl (by decide) (by decide) ⟨_, rfl, rfl, rfl, h⟩
    · refine VT_catch (i := 4) (lo2 := [(0, .ref 0), (1, .int a1), (2, .int a2), (3, .int a3)]) [⟨0, 7, 8, 23⟩] ⟨0, 7, 13, 14⟩ [⟨0, 7, 18, 17⟩] rfl (by decide) (fun z hz => by simp only [List.mem_cons, List.not_mem_nil, or_false] at hz; rcases hz with rfl <;> first | exact Or.inr ⟨by decide, "java/lang/IndexOutOfBoundsException", by decide, by decide, cl_RL_23⟩) (by decide) (by decide) cl_RL_14 dL_bag_13 (Or.inl ⟨rfl, rfl⟩) (by decide) rfl ?_
      refine V_ldc dL_bag_15 co_RL_16 ?_
      exact V_iret dL_bag_17 rfl (by decide) (by decide) ⟨_, rfl, rfl, rfl, h⟩
    · refine VT_catch (i := 4) (lo2 := [(0, .ref 0), (1, .int a1), (2, .int a2), (3, .int a3)]) [⟨0, 7, 8, 23⟩, ⟨0, 7, 13, 14⟩] ⟨0, 7, 18, 17⟩ [] rfl (by decide) (fun z hz => by simp only [List.mem_cons, List.not_mem_nil, or_false] at hz; rcases hz with rfl | rfl <;> first | exact Or.inr ⟨by decide, "java/lang/IndexOutOfBoundsException", by decide, by decide, cl_RL_23⟩ | exact Or.inr ⟨by decide, "java/lang/IllegalArgumentException", by decide, by decide, cl_RL_14⟩) (by decide) (by decide) cl_RL_17 dL_bag_18 (Or.inl ⟨rfl, rfl⟩) (by decide) rfl ?_
      refine V_ldc dL_bag_20 co_RL_16 ?_
      exact V_iret dL_bag_22 rfl (by decide) (by decide) ⟨_, rfl, rfl, rfl, h⟩
def wL_rows (a1 : Int32) (I : QI) (post : Int32 → QI → Prop) : Prop := (wX7_rows a1 I (fun r2 I1 => post r2 I1) (fun E I3 => ((E = "java/lang/IndexOutOfBoundsException" ∧ post (-99999) I3) ∨ (E = "java/lang/IllegalStateException" ∧ post (-99999) I3))))
set_option maxRecDepth 100000 in
set_option maxHeartbeats 4000000 in
theorem s_mL_rows {X : QX} {S : QS} {a1 : Int32} {I : QI} {J : QJ} {post : Int32 → QI → Prop} (hS : Sh S) (h : wL_rows a1 I post) : CX X mL_rows 8 1 6 [.ref 0, .int a1] S I J (q_Pi S (fun r I2 J2 => J = J2 ∧ post r I2)) := by
  refine CX.of (lo := [(0, .ref 0), (1, .int a1)]) ok_mL_rows rfl (Nat.le_of_ble_eq_true rfl) rfl ?_
  replace h : (wX7_rows a1 I (fun r2 I1 => post r2 I1) (fun E I3 => ((E = "java/lang/IndexOutOfBoundsException" ∧ post (-99999) I3) ∨ (E = "java/lang/IllegalStateException" ∧ post (-99999) I3)))) := h
  refine V_aload_n dL_rows_0 rfl rfl ?_
  refine V_iload_n dL_rows_1 rfl rfl ?_
  refine V_callVx (st := []) [.int a1] dL_rows_2 ok_mX7_rows rfl ml_RL_46 in_mX7_rows se_mX7_rows (hS.n 0 rfl) (hS.k 0 7 rfl) (by decide) rfl (Nat.le_of_ble_eq_true rfl) (by decide) (by decide) (by decide) (s_mX7_rows hS h) (fun r2 I1 J9 h => ?_) (fun E I3 J9 h => ?_)
  · obtain ⟨rfl, h⟩ := h
    exact V_iret dL_rows_5 rfl (by decide) (by decide) ⟨_, rfl, rfl, rfl, h⟩
  · obtain ⟨rfl, h⟩ := h
    rcases h with ⟨rfl, h⟩ | ⟨rfl, h⟩
    · refine VT_catch (i := 2) (lo2 := [(0, .ref 0), (1, .int a1)]) [] ⟨0, 5, 6, 23⟩ [⟨0, 5, 10, 17⟩] rfl (by decide) (fun z hz => nomatch hz) (by decide) (by decide) cl_RL_23 dL_rows_6 (Or.inr ⟨_, rfl, rfl, rfl⟩) (by decide) rfl ?_
      refine V_ldc dL_rows_7 co_RL_16 ?_
      exact V_iret dL_rows_9 rfl (by decide) (by decide) ⟨_, rfl, rfl, rfl, h⟩
    · refine VT_catch (i := 2) (lo2 := [(0, .ref 0), (1, .int a1)]) [⟨0, 5, 6, 23⟩] ⟨0, 5, 10, 17⟩ [] rfl (by decide) (fun z hz => by simp only [List.mem_cons, List.not_mem_nil, or_false] at hz; rcases hz with rfl <;> first | exact Or.inr ⟨by decide, "java/lang/IndexOutOfBoundsException", by decide, by decide, cl_RL_23⟩) (by decide) (by decide) cl_RL_17 dL_rows_10 (Or.inr ⟨_, rfl, rfl, rfl⟩) (by decide) rfl ?_
      refine V_ldc dL_rows_11 co_RL_16 ?_
      exact V_iret dL_rows_13 rfl (by decide) (by decide) ⟨_, rfl, rfl, rfl, h⟩
def wL_value (a1 : Int32) (a2 : Int32) (a3 : Int32) (I : QI) (post : Int32 → QI → Prop) : Prop := (wX7_cell a1 a2 a3 I (fun r2 I1 => post r2 I1) (fun E I3 => ((E = "java/lang/IndexOutOfBoundsException" ∧ post (-99999) I3) ∨ (E = "java/lang/IllegalStateException" ∧ post (-99999) I3))))
set_option maxRecDepth 100000 in
set_option maxHeartbeats 4000000 in
theorem s_mL_value {X : QX} {S : QS} {a1 : Int32} {a2 : Int32} {a3 : Int32} {I : QI} {J : QJ} {post : Int32 → QI → Prop} (hS : Sh S) (h : wL_value a1 a2 a3 I post) : CX X mL_value 8 1 6 [.ref 0, .int a1, .int a2, .int a3] S I J (q_Pi S (fun r I2 J2 => J = J2 ∧ post r I2)) := by
  refine CX.of (lo := [(0, .ref 0), (1, .int a1), (2, .int a2), (3, .int a3)]) ok_mL_value rfl (Nat.le_of_ble_eq_true rfl) rfl ?_
  replace h : (wX7_cell a1 a2 a3 I (fun r2 I1 => post r2 I1) (fun E I3 => ((E = "java/lang/IndexOutOfBoundsException" ∧ post (-99999) I3) ∨ (E = "java/lang/IllegalStateException" ∧ post (-99999) I3)))) := h
  refine V_aload_n dL_value_0 rfl rfl ?_
  refine V_iload_n dL_value_1 rfl rfl ?_
  refine V_iload_n dL_value_2 rfl rfl ?_
  refine V_iload_n dL_value_3 rfl rfl ?_
  refine V_callVx (st := []) [.int a1, .int a2, .int a3] dL_value_4 ok_mX7_cell rfl ml_RL_49 in_mX7_cell se_mX7_cell (hS.n 0 rfl) (hS.k 0 7 rfl) (by decide) rfl (Nat.le_of_ble_eq_true rfl) (by decide) (by decide) (by decide) (s_mX7_cell hS h) (fun r2 I1 J9 h => ?_) (fun E I3 J9 h => ?_)
  · obtain ⟨rfl, h⟩ := h
    exact V_iret dL_value_7 rfl (by decide) (by decide) ⟨_, rfl, rfl, rfl, h⟩
  · obtain ⟨rfl, h⟩ := h
    rcases h with ⟨rfl, h⟩ | ⟨rfl, h⟩
    · refine VT_catch (i := 4) (lo2 := [(0, .ref 0), (1, .int a1), (2, .int a2), (3, .int a3)]) [] ⟨0, 7, 8, 23⟩ [⟨0, 7, 13, 17⟩] rfl (by decide) (fun z hz => nomatch hz) (by decide) (by decide) cl_RL_23 dL_value_8 (Or.inl ⟨rfl, rfl⟩) (by decide) rfl ?_
      refine V_ldc dL_value_10 co_RL_16 ?_
      exact V_iret dL_value_12 rfl (by decide) (by decide) ⟨_, rfl, rfl, rfl, h⟩
    · refine VT_catch (i := 4) (lo2 := [(0, .ref 0), (1, .int a1), (2, .int a2), (3, .int a3)]) [⟨0, 7, 8, 23⟩] ⟨0, 7, 13, 17⟩ [] rfl (by decide) (fun z hz => by simp only [List.mem_cons, List.not_mem_nil, or_false] at hz; rcases hz with rfl <;> first | exact Or.inr ⟨by decide, "java/lang/IndexOutOfBoundsException", by decide, by decide, cl_RL_23⟩) (by decide) (by decide) cl_RL_17 dL_value_13 (Or.inl ⟨rfl, rfl⟩) (by decide) rfl ?_
      refine V_ldc dL_value_15 co_RL_16 ?_
      exact V_iret dL_value_17 rfl (by decide) (by decide) ⟨_, rfl, rfl, rfl, h⟩
def wL_steps (a1 : Int32) (I : QI) (post : Int32 → QI → Prop) : Prop := (wX7_steps a1 I (fun r2 I1 => post r2 I1) (fun E I3 => ((E = "java/lang/IndexOutOfBoundsException" ∧ post (-99999) I3) ∨ (E = "java/lang/IllegalStateException" ∧ post (-99999) I3))))
set_option maxRecDepth 100000 in
set_option maxHeartbeats 4000000 in
theorem s_mL_steps {X : QX} {S : QS} {a1 : Int32} {I : QI} {J : QJ} {post : Int32 → QI → Prop} (hS : Sh S) (h : wL_steps a1 I post) : CX X mL_steps 8 1 6 [.ref 0, .int a1] S I J (q_Pi S (fun r I2 J2 => J = J2 ∧ post r I2)) := by
  refine CX.of (lo := [(0, .ref 0), (1, .int a1)]) ok_mL_steps rfl (Nat.le_of_ble_eq_true rfl) rfl ?_
  replace h : (wX7_steps a1 I (fun r2 I1 => post r2 I1) (fun E I3 => ((E = "java/lang/IndexOutOfBoundsException" ∧ post (-99999) I3) ∨ (E = "java/lang/IllegalStateException" ∧ post (-99999) I3)))) := h
  refine V_aload_n dL_steps_0 rfl rfl ?_
  refine V_iload_n dL_steps_1 rfl rfl ?_
  refine V_callVx (st := []) [.int a1] dL_steps_2 ok_mX7_steps rfl ml_RL_56 in_mX7_steps se_mX7_steps (hS.n 0 rfl) (hS.k 0 7 rfl) (by decide) rfl (Nat.le_of_ble_eq_true rfl) (by decide) (by decide) (by decide) (s_mX7_steps hS h) (fun r2 I1 J9 h => ?_) (fun E I3 J9 h => ?_)
  · obtain ⟨rfl, h⟩ := h
    exact V_iret dL_steps_5 rfl (by decide) (by decide) ⟨_, rfl, rfl, rfl, h⟩
  · obtain ⟨rfl, h⟩ := h
    rcases h with ⟨rfl, h⟩ | ⟨rfl, h⟩
    · refine VT_catch (i := 2) (lo2 := [(0, .ref 0), (1, .int a1)]) [] ⟨0, 5, 6, 23⟩ [⟨0, 5, 10, 17⟩] rfl (by decide) (fun z hz => nomatch hz) (by decide) (by decide) cl_RL_23 dL_steps_6 (Or.inr ⟨_, rfl, rfl, rfl⟩) (by decide) rfl ?_
      refine V_ldc dL_steps_7 co_RL_16 ?_
      exact V_iret dL_steps_9 rfl (by decide) (by decide) ⟨_, rfl, rfl, rfl, h⟩
    · refine VT_catch (i := 2) (lo2 := [(0, .ref 0), (1, .int a1)]) [⟨0, 5, 6, 23⟩] ⟨0, 5, 10, 17⟩ [] rfl (by decide) (fun z hz => by simp only [List.mem_cons, List.not_mem_nil, or_false] at hz; rcases hz with rfl <;> first | exact Or.inr ⟨by decide, "java/lang/IndexOutOfBoundsException", by decide, by decide, cl_RL_23⟩) (by decide) (by decide) cl_RL_17 dL_steps_10 (Or.inr ⟨_, rfl, rfl, rfl⟩) (by decide) rfl ?_
      refine V_ldc dL_steps_11 co_RL_16 ?_
      exact V_iret dL_steps_13 rfl (by decide) (by decide) ⟨_, rfl, rfl, rfl, h⟩
def wL_budget (a1 : Int32) (I : QI) (post : Int32 → QI → Prop) : Prop := (wX7_budget a1 I (fun r2 I1 => post r2 I1) (fun E I3 => ((E = "java/lang/IllegalArgumentException" ∧ post (-99999) I3))))
set_option maxRecDepth 100000 in
set_option maxHeartbeats 4000000 in
theorem s_mL_budget {X : QX} {S : QS} {a1 : Int32} {I : QI} {J : QJ} {post : Int32 → QI → Prop} (hS : Sh S) (h : wL_budget a1 I post) : CX X mL_budget 1 1 6 [.ref 0, .int a1] S I J (q_Pi S (fun r I2 J2 => J = J2 ∧ post r I2)) := by
  refine CX.of (lo := [(0, .ref 0), (1, .int a1)]) ok_mL_budget rfl (Nat.le_of_ble_eq_true rfl) rfl ?_
  replace h : (wX7_budget a1 I (fun r2 I1 => post r2 I1) (fun E I3 => ((E = "java/lang/IllegalArgumentException" ∧ post (-99999) I3)))) := h
  refine V_aload_n dL_budget_0 rfl rfl ?_
  refine V_iload_n dL_budget_1 rfl rfl ?_
  refine V_callVx (st := []) [.int a1] dL_budget_2 ok_mX7_budget rfl ml_RL_59 in_mX7_budget se_mX7_budget (hS.n 0 rfl) (hS.k 0 7 rfl) (by decide) rfl (Nat.le_of_ble_eq_true rfl) (by decide) (by decide) (by decide) (s_mX7_budget hS h) (fun r2 I1 J9 h => ?_) (fun E I3 J9 h => ?_)
  · obtain ⟨rfl, h⟩ := h
    exact V_iret dL_budget_5 rfl (by decide) (by decide) ⟨_, rfl, rfl, rfl, h⟩
  · obtain ⟨rfl, h⟩ := h
    obtain ⟨rfl, h⟩ := h
    refine VT_catch (i := 2) (lo2 := [(0, .ref 0), (1, .int a1)]) [] ⟨0, 5, 6, 14⟩ [] rfl (by decide) (fun z hz => nomatch hz) (by decide) (by decide) cl_RL_14 dL_budget_6 (Or.inr ⟨_, rfl, rfl, rfl⟩) (by decide) rfl ?_
    refine V_ldc dL_budget_7 co_RL_16 ?_
    exact V_iret dL_budget_9 rfl (by decide) (by decide) ⟨_, rfl, rfl, rfl, h⟩
def wL_link (a1 : Int32) (a2 : Int32) (a3 : Int32) (a4 : Int32) (I : QI) (post : Int32 → QI → Prop) : Prop := (wX7_link a1 a2 a3 a4 I (fun r2 I1 => post r2 I1) (fun E I3 => ((E = "java/lang/IndexOutOfBoundsException" ∧ post (-99999) I3) ∨ (E = "java/lang/IllegalArgumentException" ∧ post (-99999) I3) ∨ (E = "java/lang/IllegalStateException" ∧ post (-99999) I3))))
set_option maxRecDepth 100000 in
set_option maxHeartbeats 4000000 in
theorem s_mL_link {X : QX} {S : QS} {a1 : Int32} {a2 : Int32} {a3 : Int32} {a4 : Int32} {I : QI} {J : QJ} {post : Int32 → QI → Prop} (hS : Sh S) (h : wL_link a1 a2 a3 a4 I post) : CX X mL_link 3 1 6 [.ref 0, .int a1, .int a2, .int a3, .int a4] S I J (q_Pi S (fun r I2 J2 => J = J2 ∧ post r I2)) := by
  refine CX.of (lo := [(0, .ref 0), (1, .int a1), (2, .int a2), (3, .int a3), (4, .int a4)]) ok_mL_link rfl (Nat.le_of_ble_eq_true rfl) rfl ?_
  replace h : (wX7_link a1 a2 a3 a4 I (fun r2 I1 => post r2 I1) (fun E I3 => ((E = "java/lang/IndexOutOfBoundsException" ∧ post (-99999) I3) ∨ (E = "java/lang/IllegalArgumentException" ∧ post (-99999) I3) ∨ (E = "java/lang/IllegalStateException" ∧ post (-99999) I3)))) := h
  refine V_aload_n dL_link_0 rfl rfl ?_
  refine V_iload_n dL_link_1 rfl rfl ?_
  refine V_iload_n dL_link_2 rfl rfl ?_
  refine V_iload_n dL_link_3 rfl rfl ?_
  refine V_iload dL_link_4 rfl ?_
  refine V_callVx (st := []) [.int a1, .int a2, .int a3, .int a4] dL_link_6 ok_mX7_link rfl ml_RL_68 in_mX7_link se_mX7_link (hS.n 0 rfl) (hS.k 0 7 rfl) (by decide) rfl (Nat.le_of_ble_eq_true rfl) (by decide) (by decide) (by decide) (s_mX7_link hS h) (fun r2 I1 J9 h => ?_) (fun E I3 J9 h => ?_)
  · obtain ⟨rfl, h⟩ := h
    exact V_iret dL_link_9 rfl (by decide) (by decide) ⟨_, rfl, rfl, rfl, h⟩
  · obtain ⟨rfl, h⟩ := h
    rcases h with ⟨rfl, h⟩ | ⟨rfl, h⟩ | ⟨rfl, h⟩
    · refine VT_catch (i := 5) (lo2 := [(0, .ref 0), (1, .int a1), (2, .int a2), (3, .int a3), (4, .int a4)]) [] ⟨0, 9, 10, 23⟩ [⟨0, 9, 15, 14⟩, ⟨0, 9, 20, 17⟩] rfl (by decide) (fun z hz => nomatch hz) (by decide) (by decide) cl_RL_23 dL_link_10 (Or.inl ⟨rfl, rfl⟩) (by decide) rfl ?_
      refine V_ldc dL_link_12 co_RL_16 ?_
      exact V_iret dL_link_14 rfl (by decide) (by decide) ⟨_, rfl, rfl, rfl, h⟩
    · refine VT_catch (i := 5) (lo2 := [(0, .ref 0), (1, .int a1), (2, .int a2), (3, .int a3), (4, .int a4)]) [⟨0, 9, 10, 23⟩] ⟨0, 9, 15, 14⟩ [⟨0, 9, 20, 17⟩] rfl (by decide) (fun z hz => by simp only [List.mem_cons, List.not_mem_nil, or_false] at hz; rcases hz with rfl <;> first | exact Or.inr ⟨by decide, "java/lang/IndexOutOfBoundsException", by decide, by decide, cl_RL_23⟩) (by decide) (by decide) cl_RL_14 dL_link_15 (Or.inl ⟨rfl, rfl⟩) (by decide) rfl ?_
      refine V_ldc dL_link_17 co_RL_16 ?_
      exact V_iret dL_link_19 rfl (by decide) (by decide) ⟨_, rfl, rfl, rfl, h⟩
    · refine VT_catch (i := 5) (lo2 := [(0, .ref 0), (1, .int a1), (2, .int a2), (3, .int a3), (4, .int a4)]) [⟨0, 9, 10, 23⟩, ⟨0, 9, 15, 14⟩] ⟨0, 9, 20, 17⟩ [] rfl (by decide) (fun z hz => by simp only [List.mem_cons, List.not_mem_nil, or_false] at hz; rcases hz with rfl | rfl <;> first | exact Or.inr ⟨by decide, "java/lang/IndexOutOfBoundsException", by decide, by decide, cl_RL_23⟩ | exact Or.inr ⟨by decide, "java/lang/IllegalArgumentException", by decide, by decide, cl_RL_14⟩) (by decide) (by decide) cl_RL_17 dL_link_20 (Or.inl ⟨rfl, rfl⟩) (by decide) rfl ?_
      refine V_ldc dL_link_22 co_RL_16 ?_
      exact V_iret dL_link_24 rfl (by decide) (by decide) ⟨_, rfl, rfl, rfl, h⟩
def wL_cost (a1 : Int32) (I : QI) (post : Int32 → QI → Prop) : Prop := (wX7_cost a1 I (fun r2 I1 => post r2 I1) (fun E I3 => ((E = "java/lang/IllegalArgumentException" ∧ post (-99999) I3))))
set_option maxRecDepth 100000 in
set_option maxHeartbeats 4000000 in
theorem s_mL_cost {X : QX} {S : QS} {a1 : Int32} {I : QI} {J : QJ} {post : Int32 → QI → Prop} (hS : Sh S) (h : wL_cost a1 I post) : CX X mL_cost 8 1 6 [.ref 0, .int a1] S I J (q_Pi S (fun r I2 J2 => J = J2 ∧ post r I2)) := by
  refine CX.of (lo := [(0, .ref 0), (1, .int a1)]) ok_mL_cost rfl (Nat.le_of_ble_eq_true rfl) rfl ?_
  replace h : (wX7_cost a1 I (fun r2 I1 => post r2 I1) (fun E I3 => ((E = "java/lang/IllegalArgumentException" ∧ post (-99999) I3)))) := h
  refine V_aload_n dL_cost_0 rfl rfl ?_
  refine V_iload_n dL_cost_1 rfl rfl ?_
  refine V_callVx (st := []) [.int a1] dL_cost_2 ok_mX7_cost rfl ml_RL_74 in_mX7_cost se_mX7_cost (hS.n 0 rfl) (hS.k 0 7 rfl) (by decide) rfl (Nat.le_of_ble_eq_true rfl) (by decide) (by decide) (by decide) (s_mX7_cost hS h) (fun r2 I1 J9 h => ?_) (fun E I3 J9 h => ?_)
  · obtain ⟨rfl, h⟩ := h
    exact V_iret dL_cost_5 rfl (by decide) (by decide) ⟨_, rfl, rfl, rfl, h⟩
  · obtain ⟨rfl, h⟩ := h
    obtain ⟨rfl, h⟩ := h
    refine VT_catch (i := 2) (lo2 := [(0, .ref 0), (1, .int a1)]) [] ⟨0, 5, 6, 14⟩ [] rfl (by decide) (fun z hz => nomatch hz) (by decide) (by decide) cl_RL_14 dL_cost_6 (Or.inr ⟨_, rfl, rfl, rfl⟩) (by decide) rfl ?_
    refine V_ldc dL_cost_7 co_RL_16 ?_
    exact V_iret dL_cost_9 rfl (by decide) (by decide) ⟨_, rfl, rfl, rfl, h⟩
def wL_view (a1 : Int32) (a2 : Int32) (a3 : Int32) (a4 : Int32) (I : QI) (post : Int32 → QI → Prop) : Prop := (wX7_view a1 a2 a3 a4 I (fun r2 I1 => post r2 I1) (fun E I3 => ((E = "java/lang/IndexOutOfBoundsException" ∧ post (-99999) I3) ∨ (E = "java/lang/IllegalArgumentException" ∧ post (-99999) I3) ∨ (E = "java/lang/IllegalStateException" ∧ post (-99999) I3))))
set_option maxRecDepth 100000 in
set_option maxHeartbeats 4000000 in
theorem s_mL_view {X : QX} {S : QS} {a1 : Int32} {a2 : Int32} {a3 : Int32} {a4 : Int32} {I : QI} {J : QJ} {post : Int32 → QI → Prop} (hS : Sh S) (h : wL_view a1 a2 a3 a4 I post) : CX X mL_view 3 1 6 [.ref 0, .int a1, .int a2, .int a3, .int a4] S I J (q_Pi S (fun r I2 J2 => J = J2 ∧ post r I2)) := by
  refine CX.of (lo := [(0, .ref 0), (1, .int a1), (2, .int a2), (3, .int a3), (4, .int a4)]) ok_mL_view rfl (Nat.le_of_ble_eq_true rfl) rfl ?_
  replace h : (wX7_view a1 a2 a3 a4 I (fun r2 I1 => post r2 I1) (fun E I3 => ((E = "java/lang/IndexOutOfBoundsException" ∧ post (-99999) I3) ∨ (E = "java/lang/IllegalArgumentException" ∧ post (-99999) I3) ∨ (E = "java/lang/IllegalStateException" ∧ post (-99999) I3)))) := h
  refine V_aload_n dL_view_0 rfl rfl ?_
  refine V_iload_n dL_view_1 rfl rfl ?_
  refine V_iload_n dL_view_2 rfl rfl ?_
  refine V_iload_n dL_view_3 rfl rfl ?_
  refine V_iload dL_view_4 rfl ?_
  refine V_callVx (st := []) [.int a1, .int a2, .int a3, .int a4] dL_view_6 ok_mX7_view rfl ml_RL_80 in_mX7_view se_mX7_view (hS.n 0 rfl) (hS.k 0 7 rfl) (by decide) rfl (Nat.le_of_ble_eq_true rfl) (by decide) (by decide) (by decide) (s_mX7_view hS h) (fun r2 I1 J9 h => ?_) (fun E I3 J9 h => ?_)
  · obtain ⟨rfl, h⟩ := h
    exact V_iret dL_view_9 rfl (by decide) (by decide) ⟨_, rfl, rfl, rfl, h⟩
  · obtain ⟨rfl, h⟩ := h
    rcases h with ⟨rfl, h⟩ | ⟨rfl, h⟩ | ⟨rfl, h⟩
    · refine VT_catch (i := 5) (lo2 := [(0, .ref 0), (1, .int a1), (2, .int a2), (3, .int a3), (4, .int a4)]) [] ⟨0, 9, 10, 23⟩ [⟨0, 9, 15, 14⟩, ⟨0, 9, 20, 17⟩] rfl (by decide) (fun z hz => nomatch hz) (by decide) (by decide) cl_RL_23 dL_view_10 (Or.inl ⟨rfl, rfl⟩) (by decide) rfl ?_
      refine V_ldc dL_view_12 co_RL_16 ?_
      exact V_iret dL_view_14 rfl (by decide) (by decide) ⟨_, rfl, rfl, rfl, h⟩
    · refine VT_catch (i := 5) (lo2 := [(0, .ref 0), (1, .int a1), (2, .int a2), (3, .int a3), (4, .int a4)]) [⟨0, 9, 10, 23⟩] ⟨0, 9, 15, 14⟩ [⟨0, 9, 20, 17⟩] rfl (by decide) (fun z hz => by simp only [List.mem_cons, List.not_mem_nil, or_false] at hz; rcases hz with rfl <;> first | exact Or.inr ⟨by decide, "java/lang/IndexOutOfBoundsException", by decide, by decide, cl_RL_23⟩) (by decide) (by decide) cl_RL_14 dL_view_15 (Or.inl ⟨rfl, rfl⟩) (by decide) rfl ?_
      refine V_ldc dL_view_17 co_RL_16 ?_
      exact V_iret dL_view_19 rfl (by decide) (by decide) ⟨_, rfl, rfl, rfl, h⟩
    · refine VT_catch (i := 5) (lo2 := [(0, .ref 0), (1, .int a1), (2, .int a2), (3, .int a3), (4, .int a4)]) [⟨0, 9, 10, 23⟩, ⟨0, 9, 15, 14⟩] ⟨0, 9, 20, 17⟩ [] rfl (by decide) (fun z hz => by simp only [List.mem_cons, List.not_mem_nil, or_false] at hz; rcases hz with rfl | rfl <;> first | exact Or.inr ⟨by decide, "java/lang/IndexOutOfBoundsException", by decide, by decide, cl_RL_23⟩ | exact Or.inr ⟨by decide, "java/lang/IllegalArgumentException", by decide, by decide, cl_RL_14⟩) (by decide) (by decide) cl_RL_17 dL_view_20 (Or.inl ⟨rfl, rfl⟩) (by decide) rfl ?_
      refine V_ldc dL_view_22 co_RL_16 ?_
      exact V_iret dL_view_24 rfl (by decide) (by decide) ⟨_, rfl, rfl, rfl, h⟩
def wL_often (a1 : Int32) (a2 : Int32) (a3 : Int32) (I : QI) (post : Int32 → Prop) : Prop := (wX7_often a1 a2 a3 I (fun r1 => post r1) (fun E => ((E = "java/lang/IndexOutOfBoundsException" ∧ post (-99999)))))
set_option maxRecDepth 100000 in
set_option maxHeartbeats 4000000 in
theorem s_mL_often {X : QX} {S : QS} {a1 : Int32} {a2 : Int32} {a3 : Int32} {I : QI} {J : QJ} {post : Int32 → Prop} (hS : Sh S) (h : wL_often a1 a2 a3 I post) : CX X mL_often 5 1 6 [.ref 0, .int a1, .int a2, .int a3] S I J (q_Pi S (fun r I2 J2 => I = I2 ∧ J = J2 ∧ post r)) := by
  refine CX.of (lo := [(0, .ref 0), (1, .int a1), (2, .int a2), (3, .int a3)]) ok_mL_often rfl (Nat.le_of_ble_eq_true rfl) rfl ?_
  replace h : (wX7_often a1 a2 a3 I (fun r1 => post r1) (fun E => ((E = "java/lang/IndexOutOfBoundsException" ∧ post (-99999))))) := h
  refine V_aload_n dL_often_0 rfl rfl ?_
  refine V_iload_n dL_often_1 rfl rfl ?_
  refine V_iload_n dL_often_2 rfl rfl ?_
  refine V_iload_n dL_often_3 rfl rfl ?_
  refine V_callVx (st := []) [.int a1, .int a2, .int a3] dL_often_4 ok_mX7_often rfl ml_RL_86 in_mX7_often se_mX7_often (hS.n 0 rfl) (hS.k 0 7 rfl) (by decide) rfl (Nat.le_of_ble_eq_true rfl) (by decide) (by decide) (by decide) (s_mX7_often hS h) (fun r1 I9 J9 h => ?_) (fun E I9 J9 h => ?_)
  · obtain ⟨rfl, rfl, h⟩ := h
    exact V_iret dL_often_7 rfl (by decide) (by decide) ⟨_, rfl, rfl, rfl, rfl, h⟩
  · obtain ⟨rfl, rfl, h⟩ := h
    obtain ⟨rfl, h⟩ := h
    refine VT_catch (i := 4) (lo2 := [(0, .ref 0), (1, .int a1), (2, .int a2), (3, .int a3)]) [] ⟨0, 7, 8, 23⟩ [] rfl (by decide) (fun z hz => nomatch hz) (by decide) (by decide) cl_RL_23 dL_often_8 (Or.inl ⟨rfl, rfl⟩) (by decide) rfl ?_
    refine V_ldc dL_often_10 co_RL_16 ?_
    exact V_iret dL_often_12 rfl (by decide) (by decide) ⟨_, rfl, rfl, rfl, rfl, h⟩
def wL_ways (a1 : Int32) (I : QI) (post : Int32 → QI → Prop) : Prop := (wX7_ways a1 I (fun r2 I1 => post r2 I1) (fun E I3 => ((E = "java/lang/IndexOutOfBoundsException" ∧ post (-99999) I3) ∨ (E = "java/lang/IllegalStateException" ∧ post (-99999) I3))))
set_option maxRecDepth 100000 in
set_option maxHeartbeats 4000000 in
theorem s_mL_ways {X : QX} {S : QS} {a1 : Int32} {I : QI} {J : QJ} {post : Int32 → QI → Prop} (hS : Sh S) (h : wL_ways a1 I post) : CX X mL_ways 5 1 6 [.ref 0, .int a1] S I J (q_Pi S (fun r I2 J2 => J = J2 ∧ post r I2)) := by
  refine CX.of (lo := [(0, .ref 0), (1, .int a1)]) ok_mL_ways rfl (Nat.le_of_ble_eq_true rfl) rfl ?_
  replace h : (wX7_ways a1 I (fun r2 I1 => post r2 I1) (fun E I3 => ((E = "java/lang/IndexOutOfBoundsException" ∧ post (-99999) I3) ∨ (E = "java/lang/IllegalStateException" ∧ post (-99999) I3)))) := h
  refine V_aload_n dL_ways_0 rfl rfl ?_
  refine V_iload_n dL_ways_1 rfl rfl ?_
  refine V_callVx (st := []) [.int a1] dL_ways_2 ok_mX7_ways rfl ml_RL_89 in_mX7_ways se_mX7_ways (hS.n 0 rfl) (hS.k 0 7 rfl) (by decide) rfl (Nat.le_of_ble_eq_true rfl) (by decide) (by decide) (by decide) (s_mX7_ways hS h) (fun r2 I1 J9 h => ?_) (fun E I3 J9 h => ?_)
  · obtain ⟨rfl, h⟩ := h
    exact V_iret dL_ways_5 rfl (by decide) (by decide) ⟨_, rfl, rfl, rfl, h⟩
  · obtain ⟨rfl, h⟩ := h
    rcases h with ⟨rfl, h⟩ | ⟨rfl, h⟩
    · refine VT_catch (i := 2) (lo2 := [(0, .ref 0), (1, .int a1)]) [] ⟨0, 5, 6, 23⟩ [⟨0, 5, 10, 17⟩] rfl (by decide) (fun z hz => nomatch hz) (by decide) (by decide) cl_RL_23 dL_ways_6 (Or.inr ⟨_, rfl, rfl, rfl⟩) (by decide) rfl ?_
      refine V_ldc dL_ways_7 co_RL_16 ?_
      exact V_iret dL_ways_9 rfl (by decide) (by decide) ⟨_, rfl, rfl, rfl, h⟩
    · refine VT_catch (i := 2) (lo2 := [(0, .ref 0), (1, .int a1)]) [⟨0, 5, 6, 23⟩] ⟨0, 5, 10, 17⟩ [] rfl (by decide) (fun z hz => by simp only [List.mem_cons, List.not_mem_nil, or_false] at hz; rcases hz with rfl <;> first | exact Or.inr ⟨by decide, "java/lang/IndexOutOfBoundsException", by decide, by decide, cl_RL_23⟩) (by decide) (by decide) cl_RL_17 dL_ways_10 (Or.inr ⟨_, rfl, rfl, rfl⟩) (by decide) rfl ?_
      refine V_ldc dL_ways_11 co_RL_16 ?_
      exact V_iret dL_ways_13 rfl (by decide) (by decide) ⟨_, rfl, rfl, rfl, h⟩
def wL_estimate (a1 : Int32) (I : QI) (post : Int32 → QI → Prop) : Prop := (wX7_estimate a1 I (fun r2 I1 => post r2 I1) (fun E I3 => ((E = "java/lang/IllegalArgumentException" ∧ post (-99999) I3))))
set_option maxRecDepth 100000 in
set_option maxHeartbeats 4000000 in
theorem s_mL_estimate {X : QX} {S : QS} {a1 : Int32} {I : QI} {J : QJ} {post : Int32 → QI → Prop} (hS : Sh S) (h : wL_estimate a1 I post) : CX X mL_estimate 7 1 6 [.ref 0, .int a1] S I J (q_Pi S (fun r I2 J2 => J = J2 ∧ post r I2)) := by
  refine CX.of (lo := [(0, .ref 0), (1, .int a1)]) ok_mL_estimate rfl (Nat.le_of_ble_eq_true rfl) rfl ?_
  replace h : (wX7_estimate a1 I (fun r2 I1 => post r2 I1) (fun E I3 => ((E = "java/lang/IllegalArgumentException" ∧ post (-99999) I3)))) := h
  refine V_aload_n dL_estimate_0 rfl rfl ?_
  refine V_iload_n dL_estimate_1 rfl rfl ?_
  refine V_callVx (st := []) [.int a1] dL_estimate_2 ok_mX7_estimate rfl ml_RL_71 in_mX7_estimate se_mX7_estimate (hS.n 0 rfl) (hS.k 0 7 rfl) (by decide) rfl (Nat.le_of_ble_eq_true rfl) (by decide) (by decide) (by decide) (s_mX7_estimate hS h) (fun r2 I1 J9 h => ?_) (fun E I3 J9 h => ?_)
  · obtain ⟨rfl, h⟩ := h
    exact V_iret dL_estimate_5 rfl (by decide) (by decide) ⟨_, rfl, rfl, rfl, h⟩
  · obtain ⟨rfl, h⟩ := h
    obtain ⟨rfl, h⟩ := h
    refine VT_catch (i := 2) (lo2 := [(0, .ref 0), (1, .int a1)]) [] ⟨0, 5, 6, 14⟩ [] rfl (by decide) (fun z hz => nomatch hz) (by decide) (by decide) cl_RL_14 dL_estimate_6 (Or.inr ⟨_, rfl, rfl, rfl⟩) (by decide) rfl ?_
    refine V_ldc dL_estimate_7 co_RL_16 ?_
    exact V_iret dL_estimate_9 rfl (by decide) (by decide) ⟨_, rfl, rfl, rfl, h⟩
def wL_split (a1 : Int32) (I : QI) (post : Int32 → QI → Prop) : Prop := (wX7_split a1 I (fun r2 I1 => post r2 I1) (fun E I3 => ((E = "java/lang/IllegalArgumentException" ∧ post (-99999) I3))))
set_option maxRecDepth 100000 in
set_option maxHeartbeats 4000000 in
theorem s_mL_split {X : QX} {S : QS} {a1 : Int32} {I : QI} {J : QJ} {post : Int32 → QI → Prop} (hS : Sh S) (h : wL_split a1 I post) : CX X mL_split 8 1 6 [.ref 0, .int a1] S I J (q_Pi S (fun r I2 J2 => J = J2 ∧ post r I2)) := by
  refine CX.of (lo := [(0, .ref 0), (1, .int a1)]) ok_mL_split rfl (Nat.le_of_ble_eq_true rfl) rfl ?_
  replace h : (wX7_split a1 I (fun r2 I1 => post r2 I1) (fun E I3 => ((E = "java/lang/IllegalArgumentException" ∧ post (-99999) I3)))) := h
  refine V_aload_n dL_split_0 rfl rfl ?_
  refine V_iload_n dL_split_1 rfl rfl ?_
  refine V_callVx (st := []) [.int a1] dL_split_2 ok_mX7_split rfl ml_RL_77 in_mX7_split se_mX7_split (hS.n 0 rfl) (hS.k 0 7 rfl) (by decide) rfl (Nat.le_of_ble_eq_true rfl) (by decide) (by decide) (by decide) (s_mX7_split hS h) (fun r2 I1 J9 h => ?_) (fun E I3 J9 h => ?_)
  · obtain ⟨rfl, h⟩ := h
    exact V_iret dL_split_5 rfl (by decide) (by decide) ⟨_, rfl, rfl, rfl, h⟩
  · obtain ⟨rfl, h⟩ := h
    obtain ⟨rfl, h⟩ := h
    refine VT_catch (i := 2) (lo2 := [(0, .ref 0), (1, .int a1)]) [] ⟨0, 5, 6, 14⟩ [] rfl (by decide) (fun z hz => nomatch hz) (by decide) (by decide) cl_RL_14 dL_split_6 (Or.inr ⟨_, rfl, rfl, rfl⟩) (by decide) rfl ?_
    refine V_ldc dL_split_7 co_RL_16 ?_
    exact V_iret dL_split_9 rfl (by decide) (by decide) ⟨_, rfl, rfl, rfl, h⟩
def wL_different (a1 : Int32) (I : QI) (post : Int32 → Prop) : Prop := (wX7_different a1 I (fun r1 => post r1) (fun E => ((E = "java/lang/IndexOutOfBoundsException" ∧ post (-99999)))))
set_option maxRecDepth 100000 in
set_option maxHeartbeats 4000000 in
theorem s_mL_different {X : QX} {S : QS} {a1 : Int32} {I : QI} {J : QJ} {post : Int32 → Prop} (hS : Sh S) (h : wL_different a1 I post) : CX X mL_different 6 1 6 [.ref 0, .int a1] S I J (q_Pi S (fun r I2 J2 => I = I2 ∧ J = J2 ∧ post r)) := by
  refine CX.of (lo := [(0, .ref 0), (1, .int a1)]) ok_mL_different rfl (Nat.le_of_ble_eq_true rfl) rfl ?_
  replace h : (wX7_different a1 I (fun r1 => post r1) (fun E => ((E = "java/lang/IndexOutOfBoundsException" ∧ post (-99999))))) := h
  refine V_aload_n dL_different_0 rfl rfl ?_
  refine V_iload_n dL_different_1 rfl rfl ?_
  refine V_callVx (st := []) [.int a1] dL_different_2 ok_mX7_different rfl ml_RL_83 in_mX7_different se_mX7_different (hS.n 0 rfl) (hS.k 0 7 rfl) (by decide) rfl (Nat.le_of_ble_eq_true rfl) (by decide) (by decide) (by decide) (s_mX7_different hS h) (fun r1 I9 J9 h => ?_) (fun E I9 J9 h => ?_)
  · obtain ⟨rfl, rfl, h⟩ := h
    exact V_iret dL_different_5 rfl (by decide) (by decide) ⟨_, rfl, rfl, rfl, rfl, h⟩
  · obtain ⟨rfl, rfl, h⟩ := h
    obtain ⟨rfl, h⟩ := h
    refine VT_catch (i := 2) (lo2 := [(0, .ref 0), (1, .int a1)]) [] ⟨0, 5, 6, 23⟩ [] rfl (by decide) (fun z hz => nomatch hz) (by decide) (by decide) cl_RL_23 dL_different_6 (Or.inr ⟨_, rfl, rfl, rfl⟩) (by decide) rfl ?_
    refine V_ldc dL_different_7 co_RL_16 ?_
    exact V_iret dL_different_9 rfl (by decide) (by decide) ⟨_, rfl, rfl, rfl, rfl, h⟩
def wL_node (a1 : Int32) (a2 : Int32) (I : QI) (post : Int32 → Prop) : Prop := (wX7_node a1 a2 I (fun r1 => post r1) (fun E => ((E = "java/lang/IndexOutOfBoundsException" ∧ post (-99999)) ∨ (E = "java/lang/IllegalArgumentException" ∧ post (-99999)))))
set_option maxRecDepth 100000 in
set_option maxHeartbeats 4000000 in
theorem s_mL_node {X : QX} {S : QS} {a1 : Int32} {a2 : Int32} {I : QI} {J : QJ} {post : Int32 → Prop} (hS : Sh S) (h : wL_node a1 a2 I post) : CX X mL_node 2 1 6 [.ref 0, .int a1, .int a2] S I J (q_Pi S (fun r I2 J2 => I = I2 ∧ J = J2 ∧ post r)) := by
  refine CX.of (lo := [(0, .ref 0), (1, .int a1), (2, .int a2)]) ok_mL_node rfl (Nat.le_of_ble_eq_true rfl) rfl ?_
  replace h : (wX7_node a1 a2 I (fun r1 => post r1) (fun E => ((E = "java/lang/IndexOutOfBoundsException" ∧ post (-99999)) ∨ (E = "java/lang/IllegalArgumentException" ∧ post (-99999))))) := h
  refine V_aload_n dL_node_0 rfl rfl ?_
  refine V_iload_n dL_node_1 rfl rfl ?_
  refine V_iload_n dL_node_2 rfl rfl ?_
  refine V_callVx (st := []) [.int a1, .int a2] dL_node_3 ok_mX7_node rfl ml_RL_65 in_mX7_node se_mX7_node (hS.n 0 rfl) (hS.k 0 7 rfl) (by decide) rfl (Nat.le_of_ble_eq_true rfl) (by decide) (by decide) (by decide) (s_mX7_node hS h) (fun r1 I9 J9 h => ?_) (fun E I9 J9 h => ?_)
  · obtain ⟨rfl, rfl, h⟩ := h
    exact V_iret dL_node_6 rfl (by decide) (by decide) ⟨_, rfl, rfl, rfl, rfl, h⟩
  · obtain ⟨rfl, rfl, h⟩ := h
    rcases h with ⟨rfl, h⟩ | ⟨rfl, h⟩
    · refine VT_catch (i := 3) (lo2 := [(0, .ref 0), (1, .int a1), (2, .int a2)]) [] ⟨0, 6, 7, 23⟩ [⟨0, 6, 11, 14⟩] rfl (by decide) (fun z hz => nomatch hz) (by decide) (by decide) cl_RL_23 dL_node_7 (Or.inr ⟨_, rfl, rfl, rfl⟩) (by decide) rfl ?_
      refine V_ldc dL_node_8 co_RL_16 ?_
      exact V_iret dL_node_10 rfl (by decide) (by decide) ⟨_, rfl, rfl, rfl, rfl, h⟩
    · refine VT_catch (i := 3) (lo2 := [(0, .ref 0), (1, .int a1), (2, .int a2)]) [⟨0, 6, 7, 23⟩] ⟨0, 6, 11, 14⟩ [] rfl (by decide) (fun z hz => by simp only [List.mem_cons, List.not_mem_nil, or_false] at hz; rcases hz with rfl <;> first | exact Or.inr ⟨by decide, "java/lang/IndexOutOfBoundsException", by decide, by decide, cl_RL_23⟩) (by decide) (by decide) cl_RL_14 dL_node_11 (Or.inr ⟨_, rfl, rfl, rfl⟩) (by decide) rfl ?_
      refine V_ldc dL_node_12 co_RL_16 ?_
      exact V_iret dL_node_14 rfl (by decide) (by decide) ⟨_, rfl, rfl, rfl, rfl, h⟩
