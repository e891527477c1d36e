/-! the law's calls -/
theorem q_sF_inj {α : Type} {f g : Nat → Nat → α} (h : q_sF f = q_sF g) : f = g := by
  have h2 := congrArg q_sF h
  rwa [q_sF_sF, q_sF_sF] at h2
theorem q_sS_nS {S : QS} (hM : 102 ≤ S.2.1) (a c z : Nat) : q_sS (q_nS S a c z) = q_nS (q_sS S) a c z := by
  have e : ∀ j, (q_s j = S.2.1) = (j = S.2.1) := fun j => propext ⟨fun h => by rw [← q_s_s j, h, q_s_hi hM], fun h => by rw [h, q_s_hi hM]⟩
  unfold q_sS q_nS
  simp only [e]
  congr 4
  funext k j
  by_cases h : k = S.2.1
  · rw [if_pos h, if_pos h]; rfl
  · rw [if_neg h, if_neg h]
/-- what the law's loop keeps of the cells -/
def Sl (X : QX) (S : QS) : Prop := Sh S ∧ Sh (q_sS S) ∧ 102 ≤ S.2.1 ∧ S.2.1 < 899000 ∧ q_cl S ∧ S.1 1000000 = X.2.1.1
theorem q_vb102 {S : QS} (hM : 102 ≤ S.2.1) {l : List Value} (h : l.all (fun v => match v with | .ref r => Nat.blt r 102 || Nat.ble 900000 r | _ => true) = true) : q_vb S.2.1 l := by
  intro r hr
  have h1 : (Nat.blt r 102 || Nat.ble 900000 r) = true := List.all_eq_true.mp h _ hr
  rcases Bool.or_eq_true_iff.mp h1 with h2 | h2
  · exact Or.inl (Nat.lt_of_lt_of_le (Nat.le_of_ble_eq_true h2) hM)
  · exact Or.inr (Nat.le_of_ble_eq_true h2)
section QL
variable {X : QX} {M : MD} {d cT sT : Nat} {Q : QP} {pc : Nat} {lo : List (Nat × Value)} {st : List Value} {S : QS} {I : QI} {J : QJ} {k n : Nat}
theorem V_callSc {M2 : MD} {d2 c2 s2 idx : Nat} {P : Int32 → QI → QJ → Prop} (As : List Value) (hd : decode M.2.2.1 pc = .ok (.invokestatic idx, 3)) (ok : q_ok M2 As.length) (hh : M2.2.2.2.2.2 = []) (hlk : Cond.methodLink M.1 idx M2.2.1 ∈ q_TB) (hstt : Cond.static M2.2.1 ∈ q_TB)
    (hst : (st.map fun v => v.category).sum ≤ 8) (hdp : d2 + 1 ≤ d) (hc : k + c2 ≤ cT) (hs : n + s2 ≤ sT) (C2 : CX X M2 d2 c2 s2 As S I J (q_Pi S P))
    (kk : ∀ (r : Int32) (I2 : QI) (J2 : QJ), P r I2 J2 → V X M d cT sT Q (pc + 3) lo (.int r :: st) S I2 J2 (k + c2) (n + s2)) : V X M d cT sT Q pc lo (As.reverse ++ st) S I J k n := by
  refine V_callS hd ok hh hlk hstt hst hdp hc hs C2 ?_ ?_ ?_ ?_
  · rintro v S2 I2 J2 ⟨r, -, rfl, -⟩; exact ⟨rfl, rfl⟩
  · rintro E S2 I2 J2 ⟨r, h, -⟩; cases h
  · rintro v S2 I2 J2 ⟨r, h, rfl, hp⟩; cases h; exact kk r I2 J2 hp
  · rintro E S2 I2 J2 ⟨r, h, -⟩; cases h
def q_Pn (X : QX) (S : QS) (J : QJ) (P : Int32 → QI → Prop) : QP := fun o S2 I2 J2 => ∃ r : Int32, o = .inl (some (.int r)) ∧ Ex S S2 ∧ Sl X S2 ∧ S2.2.1 = S.2.1 + 2 ∧ J = J2 ∧ P r I2
theorem V_callSS {M2 : MD} {d2 c2 s2 idx : Nat} {P : Int32 → QI → Prop} (As : List Value) (hd : decode M.2.2.1 pc = .ok (.invokestatic idx, 3)) (ok : q_ok M2 As.length) (hh : M2.2.2.2.2.2 = []) (hlk : Cond.methodLink M.1 idx M2.2.1 ∈ q_TB) (hstt : Cond.static M2.2.1 ∈ q_TB)
    (hst : (st.map fun v => v.category).sum ≤ 8) (hdp : d2 + 1 ≤ d) (hc : k + c2 ≤ cT) (hs : n + s2 ≤ sT) (hbl : q_vb S.2.1 (lo.map (·.2))) (hbs : q_vb S.2.1 st) (C2 : CX X M2 d2 c2 s2 As S I J (q_Pn X S J P))
    (kk : ∀ (r : Int32) (S2 : QS) (I2 : QI) (J2 : QJ), Ex S S2 → Sl X S2 → S2.2.1 = S.2.1 + 2 → J = J2 → P r I2 → V X M d cT sT Q (pc + 3) lo (.int r :: st) S2 I2 J2 (k + c2) (n + s2)) : V X M d cT sT Q pc lo (As.reverse ++ st) S I J k n := by
  refine V_callS hd ok hh hlk hstt hst hdp hc hs C2 ?_ ?_ ?_ ?_
  · rintro v S2 I2 J2 ⟨r, -, hE, -⟩; exact q_agr hE hbl hbs
  · rintro E S2 I2 J2 ⟨r, h, -⟩; cases h
  · rintro v S2 I2 J2 ⟨r, h, hE, hl, hN, hJ, hp⟩; cases h; exact kk r S2 I2 J2 hE hl hN hJ hp
  · rintro E S2 I2 J2 ⟨r, h, -⟩; cases h
end QL
def wL_act_17 (a1 : Int32) (K42 : Int32 → Int32 → QI → Prop) (post : Int32 → QI → Prop) (y0 : Int32) (I : QI) : Prop := ((y0 = 0 → (wL_low (a1 >>> (5 &&& 31)) 3 I (fun r2 => (K42 y0 r2 I)))) ∧ (¬ y0 = 0 → (wL_low (a1 >>> (5 &&& 31)) 6 I (fun r3 => (K42 y0 (r3 - 1) I)))))
set_option maxRecDepth 100000 in
set_option maxHeartbeats 4000000 in
theorem swL_act_17 {X : QX} {S : QS} {a1 : Int32} {J : QJ} {K42 : Int32 → Int32 → QI → Prop} {post : Int32 → QI → Prop} (hS : Sh S) (hK42 : ∀ (z2 : Int32) (w0 : Int32) (I : QI), K42 z2 w0 I → V X mL_act 66 1 6 (q_Pi S (fun r I2 J2 => J = J2 ∧ post r I2)) 42 [(0, .ref 0), (1, .int a1), (2, .int z2)] [.int w0] S I J 0 0) : ∀ (y0 : Int32) (I : QI), wL_act_17 a1 K42 post y0 I → V X mL_act 66 1 6 (q_Pi S (fun r I2 J2 => J = J2 ∧ post r I2)) 17 [(0, .ref 0), (1, .int a1)] [.int y0] S I J 0 0 := by
  intro y0 I h
  replace h : ((y0 = 0 → (wL_low (a1 >>> (5 &&& 31)) 3 I (fun r2 => (K42 y0 r2 I)))) ∧ (¬ y0 = 0 → (wL_low (a1 >>> (5 &&& 31)) 6 I (fun r3 => (K42 y0 (r3 - 1) I))))) := h
  refine V_istore_n (lo2 := [(2, .int y0), (0, .ref 0), (1, .int a1)]) dL_act_17 rfl (by decide) rfl ?_
  refine V_iload_n dL_act_18 rfl rfl ?_
  refine V_if_eq 35 dL_act_19 rfl (fun hc => ?_) (fun hc => ?_)
  · replace h := h.1 hc
    refine V_iload_n dL_act_35 rfl rfl ?_
    refine V_iconst (v := 5) dL_act_36 (by decide) ?_
    refine V_ishr dL_act_37 ?_
    refine V_iconst (v := 3) dL_act_38 (by decide) ?_
    refine V_callSi (st := []) [.int (a1 >>> (5 &&& 31)), .int 3] dL_act_39 ok_mL_low rfl ml_RL_92 st_mL_low (Nat.le_of_ble_eq_true rfl) (by decide) (by decide) (by decide) (s_mL_low hS h) (fun r2 I9 J9 h => ?_)
    obtain ⟨rfl, rfl, h⟩ := h
    refine V_sub (lo2 := [(0, .ref 0), (1, .int a1), (2, .int y0)]) [1, 2, 0] rfl ?_
    exact hK42 _ _ _ h
  · replace h := h.2 hc
    refine V_iload_n dL_act_22 rfl rfl ?_
    refine V_iconst (v := 5) dL_act_23 (by decide) ?_
    refine V_ishr dL_act_24 ?_
    refine V_bipush (v := 6) dL_act_25 (by decide) ?_
    refine V_callSi (st := []) [.int (a1 >>> (5 &&& 31)), .int 6] dL_act_27 ok_mL_low rfl ml_RL_92 st_mL_low (Nat.le_of_ble_eq_true rfl) (by decide) (by decide) (by decide) (s_mL_low hS h) (fun r3 I9 J9 h => ?_)
    obtain ⟨rfl, rfl, h⟩ := h
    refine V_iconst (v := 1) dL_act_30 (by decide) ?_
    refine V_isub dL_act_31 ?_
    refine V_goto 42 dL_act_32 rfl ?_
    refine V_sub (lo2 := [(0, .ref 0), (1, .int a1), (2, .int y0)]) [1, 2, 0] rfl ?_
    exact hK42 _ _ _ h
def wL_act_42 (a1 : Int32) (K70 : Int32 → Int32 → Int32 → QI → Prop) (post : Int32 → QI → Prop) (x2 : Int32) (y0 : Int32) (I : QI) : Prop := ((x2 = 0 → (wL_low (a1 >>> (8 &&& 31)) 9 I (fun r7 => (K70 x2 y0 r7 I)))) ∧ (¬ x2 = 0 → (wL_low (a1 >>> (8 &&& 31)) 30 I (fun r8 => (K70 x2 y0 (r8 - 2) I)))))
set_option maxRecDepth 100000 in
set_option maxHeartbeats 4000000 in
theorem swL_act_42 {X : QX} {S : QS} {a1 : Int32} {J : QJ} {K70 : Int32 → Int32 → Int32 → QI → Prop} {post : Int32 → QI → Prop} (hS : Sh S) (hK70 : ∀ (z2 : Int32) (z3 : Int32) (w0 : Int32) (I : QI), K70 z2 z3 w0 I → V X mL_act 66 1 6 (q_Pi S (fun r I2 J2 => J = J2 ∧ post r I2)) 70 [(0, .ref 0), (1, .int a1), (2, .int z2), (3, .int z3)] [.int w0] S I J 0 0) : ∀ (x2 : Int32) (y0 : Int32) (I : QI), wL_act_42 a1 K70 post x2 y0 I → V X mL_act 66 1 6 (q_Pi S (fun r I2 J2 => J = J2 ∧ post r I2)) 42 [(0, .ref 0), (1, .int a1), (2, .int x2)] [.int y0] S I J 0 0 := by
  intro x2 y0 I h
  replace h : ((x2 = 0 → (wL_low (a1 >>> (8 &&& 31)) 9 I (fun r7 => (K70 x2 y0 r7 I)))) ∧ (¬ x2 = 0 → (wL_low (a1 >>> (8 &&& 31)) 30 I (fun r8 => (K70 x2 y0 (r8 - 2) I))))) := h
  refine V_istore_n (lo2 := [(3, .int y0), (0, .ref 0), (1, .int a1), (2, .int x2)]) dL_act_42 rfl (by decide) rfl ?_
  refine V_iload_n dL_act_43 rfl rfl ?_
  refine V_if_eq 61 dL_act_44 rfl (fun hc => ?_) (fun hc => ?_)
  · replace h := h.1 hc
    refine V_iload_n dL_act_61 rfl rfl ?_
    refine V_bipush (v := 8) dL_act_62 (by decide) ?_
    refine V_ishr dL_act_64 ?_
    refine V_bipush (v := 9) dL_act_65 (by decide) ?_
    refine V_callSi (st := []) [.int (a1 >>> (8 &&& 31)), .int 9] dL_act_67 ok_mL_low rfl ml_RL_92 st_mL_low (Nat.le_of_ble_eq_true rfl) (by decide) (by decide) (by decide) (s_mL_low hS h) (fun r7 I9 J9 h => ?_)
    obtain ⟨rfl, rfl, h⟩ := h
    refine V_sub (lo2 := [(0, .ref 0), (1, .int a1), (2, .int x2), (3, .int y0)]) [1, 2, 3, 0] rfl ?_
    exact hK70 _ _ _ _ h
  · replace h := h.2 hc
    refine V_iload_n dL_act_47 rfl rfl ?_
    refine V_bipush (v := 8) dL_act_48 (by decide) ?_
    refine V_ishr dL_act_50 ?_
    refine V_bipush (v := 30) dL_act_51 (by decide) ?_
    refine V_callSi (st := []) [.int (a1 >>> (8 &&& 31)), .int 30] dL_act_53 ok_mL_low rfl ml_RL_92 st_mL_low (Nat.le_of_ble_eq_true rfl) (by decide) (by decide) (by decide) (s_mL_low hS h) (fun r8 I9 J9 h => ?_)
    obtain ⟨rfl, rfl, h⟩ := h
    refine V_iconst (v := 2) dL_act_56 (by decide) ?_
    refine V_isub dL_act_57 ?_
    refine V_goto 70 dL_act_58 rfl ?_
    refine V_sub (lo2 := [(0, .ref 0), (1, .int a1), (2, .int x2), (3, .int y0)]) [1, 2, 3, 0] rfl ?_
    exact hK70 _ _ _ _ h
def wL_act_70 (a1 : Int32) (K99 : Int32 → Int32 → Int32 → Int32 → QI → Prop) (post : Int32 → QI → Prop) (x2 : Int32) (x3 : Int32) (y0 : Int32) (I : QI) : Prop := ((x2 = 0 → (wL_low (a1 >>> (12 &&& 31)) 9 I (fun r13 => (K99 x2 x3 y0 r13 I)))) ∧ (¬ x2 = 0 → (wL_low (a1 >>> (12 &&& 31)) 30 I (fun r14 => (K99 x2 x3 y0 (r14 - 2) I)))))
set_option maxRecDepth 100000 in
set_option maxHeartbeats 4000000 in
theorem swL_act_70 {X : QX} {S : QS} {a1 : Int32} {J : QJ} {K99 : Int32 → Int32 → Int32 → Int32 → QI → Prop} {post : Int32 → QI → Prop} (hS : Sh S) (hK99 : ∀ (z2 : Int32) (z3 : Int32) (z4 : Int32) (w0 : Int32) (I : QI), K99 z2 z3 z4 w0 I → V X mL_act 66 1 6 (q_Pi S (fun r I2 J2 => J = J2 ∧ post r I2)) 99 [(0, .ref 0), (1, .int a1), (2, .int z2), (3, .int z3), (4, .int z4)] [.int w0] S I J 0 0) : ∀ (x2 : Int32) (x3 : Int32) (y0 : Int32) (I : QI), wL_act_70 a1 K99 post x2 x3 y0 I → V X mL_act 66 1 6 (q_Pi S (fun r I2 J2 => J = J2 ∧ post r I2)) 70 [(0, .ref 0), (1, .int a1), (2, .int x2), (3, .int x3)] [.int y0] S I J 0 0 := by
  intro x2 x3 y0 I h
  replace h : ((x2 = 0 → (wL_low (a1 >>> (12 &&& 31)) 9 I (fun r13 => (K99 x2 x3 y0 r13 I)))) ∧ (¬ x2 = 0 → (wL_low (a1 >>> (12 &&& 31)) 30 I (fun r14 => (K99 x2 x3 y0 (r14 - 2) I))))) := h
  refine V_istore (lo2 := [(4, .int y0), (0, .ref 0), (1, .int a1), (2, .int x2), (3, .int x3)]) dL_act_70 (by decide) rfl ?_
  refine V_iload_n dL_act_72 rfl rfl ?_
  refine V_if_eq 90 dL_act_73 rfl (fun hc => ?_) (fun hc => ?_)
  · replace h := h.1 hc
    refine V_iload_n dL_act_90 rfl rfl ?_
    refine V_bipush (v := 12) dL_act_91 (by decide) ?_
    refine V_ishr dL_act_93 ?_
    refine V_bipush (v := 9) dL_act_94 (by decide) ?_
    refine V_callSi (st := []) [.int (a1 >>> (12 &&& 31)), .int 9] dL_act_96 ok_mL_low rfl ml_RL_92 st_mL_low (Nat.le_of_ble_eq_true rfl) (by decide) (by decide) (by decide) (s_mL_low hS h) (fun r13 I9 J9 h => ?_)
    obtain ⟨rfl, rfl, h⟩ := h
    refine V_sub (lo2 := [(0, .ref 0), (1, .int a1), (2, .int x2), (3, .int x3), (4, .int y0)]) [1, 2, 3, 4, 0] rfl ?_
    exact hK99 _ _ _ _ _ h
  · replace h := h.2 hc
    refine V_iload_n dL_act_76 rfl rfl ?_
    refine V_bipush (v := 12) dL_act_77 (by decide) ?_
    refine V_ishr dL_act_79 ?_
    refine V_bipush (v := 30) dL_act_80 (by decide) ?_
    refine V_callSi (st := []) [.int (a1 >>> (12 &&& 31)), .int 30] dL_act_82 ok_mL_low rfl ml_RL_92 st_mL_low (Nat.le_of_ble_eq_true rfl) (by decide) (by decide) (by decide) (s_mL_low hS h) (fun r14 I9 J9 h => ?_)
    obtain ⟨rfl, rfl, h⟩ := h
    refine V_iconst (v := 2) dL_act_85 (by decide) ?_
    refine V_isub dL_act_86 ?_
    refine V_goto 99 dL_act_87 rfl ?_
    refine V_sub (lo2 := [(0, .ref 0), (1, .int a1), (2, .int x2), (3, .int x3), (4, .int y0)]) [1, 2, 3, 4, 0] rfl ?_
    exact hK99 _ _ _ _ _ h
def wL_act_99 (a1 : Int32) (K127 : Int32 → Int32 → Int32 → Int32 → Int32 → QI → Prop) (post : Int32 → QI → Prop) (x2 : Int32) (x3 : Int32) (x4 : Int32) (y0 : Int32) (I : QI) : Prop := ((x2 = 0 → (wL_low (a1 >>> (16 &&& 31)) 2 I (fun r20 => (K127 x2 x3 x4 y0 r20 I)))) ∧ (¬ x2 = 0 → (wL_low (a1 >>> (16 &&& 31)) 8 I (fun r21 => (K127 x2 x3 x4 y0 (r21 - 1) I)))))
set_option maxRecDepth 100000 in
set_option maxHeartbeats 4000000 in
theorem swL_act_99 {X : QX} {S : QS} {a1 : Int32} {J : QJ} {K127 : Int32 → Int32 → Int32 → Int32 → Int32 → QI → Prop} {post : Int32 → QI → Prop} (hS : Sh S) (hK127 : ∀ (z2 : Int32) (z3 : Int32) (z4 : Int32) (z5 : Int32) (w0 : Int32) (I : QI), K127 z2 z3 z4 z5 w0 I → V X mL_act 66 1 6 (q_Pi S (fun r I2 J2 => J = J2 ∧ post r I2)) 127 [(0, .ref 0), (1, .int a1), (2, .int z2), (3, .int z3), (4, .int z4), (5, .int z5)] [.int w0] S I J 0 0) : ∀ (x2 : Int32) (x3 : Int32) (x4 : Int32) (y0 : Int32) (I : QI), wL_act_99 a1 K127 post x2 x3 x4 y0 I → V X mL_act 66 1 6 (q_Pi S (fun r I2 J2 => J = J2 ∧ post r I2)) 99 [(0, .ref 0), (1, .int a1), (2, .int x2), (3, .int x3), (4, .int x4)] [.int y0] S I J 0 0 := by
  intro x2 x3 x4 y0 I h
  replace h : ((x2 = 0 → (wL_low (a1 >>> (16 &&& 31)) 2 I (fun r20 => (K127 x2 x3 x4 y0 r20 I)))) ∧ (¬ x2 = 0 → (wL_low (a1 >>> (16 &&& 31)) 8 I (fun r21 => (K127 x2 x3 x4 y0 (r21 - 1) I))))) := h
  refine V_istore (lo2 := [(5, .int y0), (0, .ref 0), (1, .int a1), (2, .int x2), (3, .int x3), (4, .int x4)]) dL_act_99 (by decide) rfl ?_
  refine V_iload_n dL_act_101 rfl rfl ?_
  refine V_if_eq 119 dL_act_102 rfl (fun hc => ?_) (fun hc => ?_)
  · replace h := h.1 hc
    refine V_iload_n dL_act_119 rfl rfl ?_
    refine V_bipush (v := 16) dL_act_120 (by decide) ?_
    refine V_ishr dL_act_122 ?_
    refine V_iconst (v := 2) dL_act_123 (by decide) ?_
    refine V_callSi (st := []) [.int (a1 >>> (16 &&& 31)), .int 2] dL_act_124 ok_mL_low rfl ml_RL_92 st_mL_low (Nat.le_of_ble_eq_true rfl) (by decide) (by decide) (by decide) (s_mL_low hS h) (fun r20 I9 J9 h => ?_)
    obtain ⟨rfl, rfl, h⟩ := h
    refine V_sub (lo2 := [(0, .ref 0), (1, .int a1), (2, .int x2), (3, .int x3), (4, .int x4), (5, .int y0)]) [1, 2, 3, 4, 5, 0] rfl ?_
    exact hK127 _ _ _ _ _ _ h
  · replace h := h.2 hc
    refine V_iload_n dL_act_105 rfl rfl ?_
    refine V_bipush (v := 16) dL_act_106 (by decide) ?_
    refine V_ishr dL_act_108 ?_
    refine V_bipush (v := 8) dL_act_109 (by decide) ?_
    refine V_callSi (st := []) [.int (a1 >>> (16 &&& 31)), .int 8] dL_act_111 ok_mL_low rfl ml_RL_92 st_mL_low (Nat.le_of_ble_eq_true rfl) (by decide) (by decide) (by decide) (s_mL_low hS h) (fun r21 I9 J9 h => ?_)
    obtain ⟨rfl, rfl, h⟩ := h
    refine V_iconst (v := 1) dL_act_114 (by decide) ?_
    refine V_isub dL_act_115 ?_
    refine V_goto 127 dL_act_116 rfl ?_
    refine V_sub (lo2 := [(0, .ref 0), (1, .int a1), (2, .int x2), (3, .int x3), (4, .int x4), (5, .int y0)]) [1, 2, 3, 4, 5, 0] rfl ?_
    exact hK127 _ _ _ _ _ _ h
def wL_act_127 (a1 : Int32) (K296 : Int32 → QI → Prop) (K347 : Int32 → Int32 → Int32 → QI → Prop) (K388 : Int32 → Int32 → QI → Prop) (K429 : Int32 → Int32 → Int32 → QI → Prop) (K476 : Int32 → Int32 → Int32 → Int32 → Int32 → QI → Prop) (K536 : Int32 → Int32 → Int32 → QI → Prop) (K576 : Int32 → Int32 → Int32 → QI → Prop) (K602 : Int32 → Int32 → Int32 → QI → Prop) (K667 : Int32 → QI → Prop) (K778 : Int32 → Int32 → QI → Prop) (post : Int32 → QI → Prop) (x2 : Int32) (x3 : Int32) (x4 : Int32) (x5 : Int32) (y0 : Int32) (I : QI) : Prop := (wL_low (a1 >>> (18 &&& 31)) 2 I (fun r28 => (wL_low a1 30 I (fun r29 => ((r29 = 0 → ((x2 = 0 → (wL_low (a1 >>> (5 &&& 31)) 3 I (fun r31 => (K296 (1 + r31) I)))) ∧ (¬ x2 = 0 → (K296 (a1 >>> (5 &&& 31)) I)))) ∧ (r29 = 1 → ((x2 = 0 → (wL_low (a1 >>> (5 &&& 31)) 3 I (fun r32 => (K296 (1 + r32) I)))) ∧ (¬ x2 = 0 → (K296 (a1 >>> (5 &&& 31)) I)))) ∧ (r29 = 2 → (wL_low (a1 >>> (8 &&& 31)) 4 I (fun r33 => ((x2 = 0 → (wL_low (a1 >>> (10 &&& 31)) 7 I (fun r34 => ((¬ r34 = 0 → (wL_low (a1 >>> (13 &&& 31)) 3 I (fun r35 => (K347 r35 r33 x3 I)))) ∧ (r34 = 0 → (K347 (-1000) r33 x3 I)))))) ∧ (¬ x2 = 0 → (K347 (a1 >>> (10 &&& 31)) r33 x3 I)))))) ∧ (r29 = 3 → (wL_low (a1 >>> (8 &&& 31)) 4 I (fun r36 => ((x2 = 0 → (wL_low (a1 >>> (10 &&& 31)) 7 I (fun r37 => ((¬ r37 = 0 → (wL_low (a1 >>> (13 &&& 31)) 3 I (fun r38 => (K347 r38 r36 x3 I)))) ∧ (r37 = 0 → (K347 (-1000) r36 x3 I)))))) ∧ (¬ x2 = 0 → (K347 (a1 >>> (10 &&& 31)) r36 x3 I)))))) ∧ (r29 = 4 → (wL_low (a1 >>> (8 &&& 31)) 4 I (fun r39 => ((x2 = 0 → (wL_low (a1 >>> (10 &&& 31)) 7 I (fun r40 => ((¬ r40 = 0 → (wL_low (a1 >>> (13 &&& 31)) 3 I (fun r41 => (K347 r41 r39 x3 I)))) ∧ (r40 = 0 → (K347 (-1000) r39 x3 I)))))) ∧ (¬ x2 = 0 → (K347 (a1 >>> (10 &&& 31)) r39 x3 I)))))) ∧ (r29 = 5 → (wL_low (a1 >>> (8 &&& 31)) 4 I (fun r42 => ((x2 = 0 → (wL_low (a1 >>> (10 &&& 31)) 7 I (fun r43 => ((¬ r43 = 0 → (wL_low (a1 >>> (13 &&& 31)) 3 I (fun r44 => (K347 r44 r42 x3 I)))) ∧ (r43 = 0 → (K347 (-1000) r42 x3 I)))))) ∧ (¬ x2 = 0 → (K347 (a1 >>> (10 &&& 31)) r42 x3 I)))))) ∧ (r29 = 6 → (wL_low (a1 >>> (8 &&& 31)) 4 I (fun r45 => ((x2 = 0 → (wL_low (a1 >>> (10 &&& 31)) 7 I (fun r46 => ((¬ r46 = 0 → (wL_low (a1 >>> (13 &&& 31)) 3 I (fun r47 => (K347 r47 r45 x3 I)))) ∧ (r46 = 0 → (K347 (-1000) r45 x3 I)))))) ∧ (¬ x2 = 0 → (K347 (a1 >>> (10 &&& 31)) r45 x3 I)))))) ∧ (r29 = 7 → ((x2 = 0 → (K388 0 x3 I)) ∧ (¬ x2 = 0 → (K388 (a1 >>> (8 &&& 31)) x3 I)))) ∧ (r29 = 8 → (wL_scan x3 I (fun r48 I49 => post r48 I49))) ∧ (r29 = 9 → (wL_scan x3 I (fun r50 I51 => post r50 I51))) ∧ (r29 = 10 → ((x2 = 0 → (wL_low (a1 >>> (18 &&& 31)) 4 I (fun r52 => (K429 r52 y0 x4 I)))) ∧ (¬ x2 = 0 → (wL_low (a1 >>> (18 &&& 31)) 8 I (fun r53 => (K429 (r53 - 1) y0 x4 I)))))) ∧ (r29 = 11 → ((x2 = 0 → (wL_low (a1 >>> (18 &&& 31)) 4 I (fun r54 => (K429 r54 y0 x4 I)))) ∧ (¬ x2 = 0 → (wL_low (a1 >>> (18 &&& 31)) 8 I (fun r55 => (K429 (r55 - 1) y0 x4 I)))))) ∧ (r29 = 12 → ((x2 = 0 → (wL_low (a1 >>> (18 &&& 31)) 4 I (fun r56 => (K429 r56 y0 x4 I)))) ∧ (¬ x2 = 0 → (wL_low (a1 >>> (18 &&& 31)) 8 I (fun r57 => (K429 (r57 - 1) y0 x4 I)))))) ∧ (r29 = 13 → ((x2 = 0 → (wL_low (a1 >>> (19 &&& 31)) 5 I (fun r58 => (K476 r58 r28 y0 x5 x4 I)))) ∧ (¬ x2 = 0 → (wL_low (a1 >>> (19 &&& 31)) 7 I (fun r59 => (K476 (r59 - 1) r28 y0 x5 x4 I)))))) ∧ (r29 = 14 → ((x2 = 0 → (wL_low (a1 >>> (19 &&& 31)) 5 I (fun r60 => (K476 r60 r28 y0 x5 x4 I)))) ∧ (¬ x2 = 0 → (wL_low (a1 >>> (19 &&& 31)) 7 I (fun r61 => (K476 (r61 - 1) r28 y0 x5 x4 I)))))) ∧ (r29 = 15 → ((x2 = 0 → (wL_low (a1 >>> (19 &&& 31)) 5 I (fun r62 => (K476 r62 r28 y0 x5 x4 I)))) ∧ (¬ x2 = 0 → (wL_low (a1 >>> (19 &&& 31)) 7 I (fun r63 => (K476 (r63 - 1) r28 y0 x5 x4 I)))))) ∧ (r29 = 16 → (wL_low (a1 >>> (19 &&& 31)) 5 I (fun r64 => (wL_low (a1 >>> (22 &&& 31)) 2 I (fun r65 => (wL_group x4 y0 r64 r65 I (fun r66 I67 => post r66 I67))))))) ∧ (r29 = 17 → ((x2 = 0 → (wL_low (a1 >>> (19 &&& 31)) 4 I (fun r68 => (K536 r68 x5 x4 I)))) ∧ (¬ x2 = 0 → (wL_low (a1 >>> (19 &&& 31)) 6 I (fun r69 => (K536 (r69 - 1) x5 x4 I)))))) ∧ (r29 = 18 → ((x2 = 0 → (wL_low (a1 >>> (19 &&& 31)) 4 I (fun r70 => (K536 r70 x5 x4 I)))) ∧ (¬ x2 = 0 → (wL_low (a1 >>> (19 &&& 31)) 6 I (fun r71 => (K536 (r71 - 1) x5 x4 I)))))) ∧ (r29 = 19 → (wL_rewrite x4 I (fun r72 I73 => post r72 I73))) ∧ (r29 = 20 → (wL_rows x4 I (fun r74 I75 => post r74 I75))) ∧ (r29 = 21 → ((x2 = 0 → (wL_low (a1 >>> (12 &&& 31)) 4 I (fun r76 => (K576 y0 r76 x4 I)))) ∧ (¬ x2 = 0 → (K576 y0 (a1 >>> (12 &&& 31)) x4 I)))) ∧ (r29 = 22 → ((x2 = 0 → (K602 x2 x5 x4 I)) ∧ (¬ x2 = 0 → (wL_low (a1 >>> (8 &&& 31)) 4 I (fun r77 => (K602 x2 x5 (r77 - 1) I)))))) ∧ (r29 = 23 → (wL_steps x4 I (fun r78 I79 => post r78 I79))) ∧ (r29 = 24 → (wL_low (a1 >>> (5 &&& 31)) 4 I (fun r80 => ((¬ r80 = 0 → (wL_budget 100000 I (fun r81 I82 => post r81 I82))) ∧ (r80 = 0 → ((x2 = 0 → (wL_low (a1 >>> (8 &&& 31)) 300 I (fun r83 => (K667 (1 + r83) I)))) ∧ (¬ x2 = 0 → (K667 (a1 >>> (8 &&& 31)) I)))))))) ∧ (r29 = 25 → (wL_low (a1 >>> (18 &&& 31)) 3 I (fun r84 => (wL_low (a1 >>> (20 &&& 31)) 2 I (fun r85 => (wL_link x3 y0 r84 r85 I (fun r86 I87 => post r86 I87))))))) ∧ (r29 = 26 → ((x2 = 0 → (wL_low (a1 >>> (5 &&& 31)) 7 I (fun r88 => (wL_cost (1 + r88) I (fun r89 I90 => post r89 I90))))) ∧ (¬ x2 = 0 → (wL_cost (a1 >>> (5 &&& 31)) I (fun r91 I92 => post r91 I92))))) ∧ (r29 = 27 → (wL_low (a1 >>> (8 &&& 31)) 3 I (fun r93 => (wL_view x3 r93 y0 r28 I (fun r94 I95 => post r94 I95))))) ∧ (r29 = 28 → (wL_low (a1 >>> (5 &&& 31)) 2 I (fun r96 => ((x2 = 0 → (wL_low (a1 >>> (8 &&& 31)) 2 I (fun r97 => (K778 r97 r96 I)))) ∧ (¬ x2 = 0 → (K778 (a1 >>> (8 &&& 31)) r96 I)))))) ∧ (¬ r29 = 0 → ¬ r29 = 1 → ¬ r29 = 2 → ¬ r29 = 3 → ¬ r29 = 4 → ¬ r29 = 5 → ¬ r29 = 6 → ¬ r29 = 7 → ¬ r29 = 8 → ¬ r29 = 9 → ¬ r29 = 10 → ¬ r29 = 11 → ¬ r29 = 12 → ¬ r29 = 13 → ¬ r29 = 14 → ¬ r29 = 15 → ¬ r29 = 16 → ¬ r29 = 17 → ¬ r29 = 18 → ¬ r29 = 19 → ¬ r29 = 20 → ¬ r29 = 21 → ¬ r29 = 22 → ¬ r29 = 23 → ¬ r29 = 24 → ¬ r29 = 25 → ¬ r29 = 26 → ¬ r29 = 27 → ¬ r29 = 28 → (wL_ways x3 I (fun r98 I99 => post r98 I99))))))))
set_option maxRecDepth 100000 in
set_option maxHeartbeats 4000000 in
theorem swL_act_127 {X : QX} {S : QS} {a1 : Int32} {J : QJ} {K296 : Int32 → QI → Prop} {K347 : Int32 → Int32 → Int32 → QI → Prop} {K388 : Int32 → Int32 → QI → Prop} {K429 : Int32 → Int32 → Int32 → QI → Prop} {K476 : Int32 → Int32 → Int32 → Int32 → Int32 → QI → Prop} {K536 : Int32 → Int32 → Int32 → QI → Prop} {K576 : Int32 → Int32 → Int32 → QI → Prop} {K602 : Int32 → Int32 → Int32 → QI → Prop} {K667 : Int32 → QI → Prop} {K778 : Int32 → Int32 → QI → Prop} {post : Int32 → QI → Prop} (hS : Sh S) (hK296 : ∀ (w0 : Int32) (I : QI), K296 w0 I → V X mL_act 66 1 6 (q_Pi S (fun r I2 J2 => J = J2 ∧ post r I2)) 296 [] [.int w0, .ref 0] S I J 0 0) (hK347 : ∀ (w0 : Int32) (w1 : Int32) (w2 : Int32) (I : QI), K347 w0 w1 w2 I → V X mL_act 66 1 6 (q_Pi S (fun r I2 J2 => J = J2 ∧ post r I2)) 347 [(1, .int a1)] [.int w0, .int w1, .int w2, .ref 0] S I J 0 0) (hK388 : ∀ (w0 : Int32) (w1 : Int32) (I : QI), K388 w0 w1 I → V X mL_act 66 1 6 (q_Pi S (fun r I2 J2 => J = J2 ∧ post r I2)) 388 [] [.int w0, .int w1, .ref 0] S I J 0 0) (hK429 : ∀ (w0 : Int32) (w1 : Int32) (w2 : Int32) (I : QI), K429 w0 w1 w2 I → V X mL_act 66 1 6 (q_Pi S (fun r I2 J2 => J = J2 ∧ post r I2)) 429 [(1, .int a1)] [.int w0, .int w1, .int w2, .ref 0] S I J 0 0) (hK476 : ∀ (w0 : Int32) (w1 : Int32) (w2 : Int32) (w3 : Int32) (w4 : Int32) (I : QI), K476 w0 w1 w2 w3 w4 I → V X mL_act 66 1 6 (q_Pi S (fun r I2 J2 => J = J2 ∧ post r I2)) 476 [] [.int w0, .int w1, .int w2, .int w3, .int w4, .ref 0] S I J 0 0) (hK536 : ∀ (w0 : Int32) (w1 : Int32) (w2 : Int32) (I : QI), K536 w0 w1 w2 I → V X mL_act 66 1 6 (q_Pi S (fun r I2 J2 => J = J2 ∧ post r I2)) 536 [] [.int w0, .int w1, .int w2, .ref 0] S I J 0 0) (hK576 : ∀ (z6 : Int32) (w0 : Int32) (w1 : Int32) (I : QI), K576 z6 w0 w1 I → V X mL_act 66 1 6 (q_Pi S (fun r I2 J2 => J = J2 ∧ post r I2)) 576 [(6, .int z6)] [.int w0, .int w1, .ref 0] S I J 0 0) (hK602 : ∀ (z2 : Int32) (z5 : Int32) (w0 : Int32) (I : QI), K602 z2 z5 w0 I → V X mL_act 66 1 6 (q_Pi S (fun r I2 J2 => J = J2 ∧ post r I2)) 602 [(1, .int a1), (2, .int z2), (5, .int z5)] [.int w0, .ref 0] S I J 0 0) (hK667 : ∀ (w0 : Int32) (I : QI), K667 w0 I → V X mL_act 66 1 6 (q_Pi S (fun r I2 J2 => J = J2 ∧ post r I2)) 667 [] [.int w0, .ref 0] S I J 0 0) (hK778 : ∀ (w0 : Int32) (w1 : Int32) (I : QI), K778 w0 w1 I → V X mL_act 66 1 6 (q_Pi S (fun r I2 J2 => J = J2 ∧ post r I2)) 778 [(1, .int a1)] [.int w0, .int w1, .ref 0] S I J 0 0) : ∀ (x2 : Int32) (x3 : Int32) (x4 : Int32) (x5 : Int32) (y0 : Int32) (I : QI), wL_act_127 a1 K296 K347 K388 K429 K476 K536 K576 K602 K667 K778 post x2 x3 x4 x5 y0 I → V X mL_act 66 1 6 (q_Pi S (fun r I2 J2 => J = J2 ∧ post r I2)) 127 [(0, .ref 0), (1, .int a1), (2, .int x2), (3, .int x3), (4, .int x4), (5, .int x5)] [.int y0] S I J 0 0 := by
  intro x2 x3 x4 x5 y0 I h
  replace h : (wL_low (a1 >>> (18 &&& 31)) 2 I (fun r28 => (wL_low a1 30 I (fun r29 => ((r29 = 0 → ((x2 = 0 → (wL_low (a1 >>> (5 &&& 31)) 3 I (fun r31 => (K296 (1 + r31) I)))) ∧ (¬ x2 = 0 → (K296 (a1 >>> (5 &&& 31)) I)))) ∧ (r29 = 1 → ((x2 = 0 → (wL_low (a1 >>> (5 &&& 31)) 3 I (fun r32 => (K296 (1 + r32) I)))) ∧ (¬ x2 = 0 → (K296 (a1 >>> (5 &&& 31)) I)))) ∧ (r29 = 2 → (wL_low (a1 >>> (8 &&& 31)) 4 I (fun r33 => ((x2 = 0 → (wL_low (a1 >>> (10 &&& 31)) 7 I (fun r34 => ((¬ r34 = 0 → (wL_low (a1 >>> (13 &&& 31)) 3 I (fun r35 => (K347 r35 r33 x3 I)))) ∧ (r34 = 0 → (K347 (-1000) r33 x3 I)))))) ∧ (¬ x2 = 0 → (K347 (a1 >>> (10 &&& 31)) r33 x3 I)))))) ∧ (r29 = 3 → (wL_low (a1 >>> (8 &&& 31)) 4 I (fun r36 => ((x2 = 0 → (wL_low (a1 >>> (10 &&& 31)) 7 I (fun r37 => ((¬ r37 = 0 → (wL_low (a1 >>> (13 &&& 31)) 3 I (fun r38 => (K347 r38 r36 x3 I)))) ∧ (r37 = 0 → (K347 (-1000) r36 x3 I)))))) ∧ (¬ x2 = 0 → (K347 (a1 >>> (10 &&& 31)) r36 x3 I)))))) ∧ (r29 = 4 → (wL_low (a1 >>> (8 &&& 31)) 4 I (fun r39 => ((x2 = 0 → (wL_low (a1 >>> (10 &&& 31)) 7 I (fun r40 => ((¬ r40 = 0 → (wL_low (a1 >>> (13 &&& 31)) 3 I (fun r41 => (K347 r41 r39 x3 I)))) ∧ (r40 = 0 → (K347 (-1000) r39 x3 I)))))) ∧ (¬ x2 = 0 → (K347 (a1 >>> (10 &&& 31)) r39 x3 I)))))) ∧ (r29 = 5 → (wL_low (a1 >>> (8 &&& 31)) 4 I (fun r42 => ((x2 = 0 → (wL_low (a1 >>> (10 &&& 31)) 7 I (fun r43 => ((¬ r43 = 0 → (wL_low (a1 >>> (13 &&& 31)) 3 I (fun r44 => (K347 r44 r42 x3 I)))) ∧ (r43 = 0 → (K347 (-1000) r42 x3 I)))))) ∧ (¬ x2 = 0 → (K347 (a1 >>> (10 &&& 31)) r42 x3 I)))))) ∧ (r29 = 6 → (wL_low (a1 >>> (8 &&& 31)) 4 I (fun r45 => ((x2 = 0 → (wL_low (a1 >>> (10 &&& 31)) 7 I (fun r46 => ((¬ r46 = 0 → (wL_low (a1 >>> (13 &&& 31)) 3 I (fun r47 => (K347 r47 r45 x3 I)))) ∧ (r46 = 0 → (K347 (-1000) r45 x3 I)))))) ∧ (¬ x2 = 0 → (K347 (a1 >>> (10 &&& 31)) r45 x3 I)))))) ∧ (r29 = 7 → ((x2 = 0 → (K388 0 x3 I)) ∧ (¬ x2 = 0 → (K388 (a1 >>> (8 &&& 31)) x3 I)))) ∧ (r29 = 8 → (wL_scan x3 I (fun r48 I49 => post r48 I49))) ∧ (r29 = 9 → (wL_scan x3 I (fun r50 I51 => post r50 I51))) ∧ (r29 = 10 → ((x2 = 0 → (wL_low (a1 >>> (18 &&& 31)) 4 I (fun r52 => (K429 r52 y0 x4 I)))) ∧ (¬ x2 = 0 → (wL_low (a1 >>> (18 &&& 31)) 8 I (fun r53 => (K429 (r53 - 1) y0 x4 I)))))) ∧ (r29 = 11 → ((x2 = 0 → (wL_low (a1 >>> (18 &&& 31)) 4 I (fun r54 => (K429 r54 y0 x4 I)))) ∧ (¬ x2 = 0 → (wL_low (a1 >>> (18 &&& 31)) 8 I (fun r55 => (K429 (r55 - 1) y0 x4 I)))))) ∧ (r29 = 12 → ((x2 = 0 → (wL_low (a1 >>> (18 &&& 31)) 4 I (fun r56 => (K429 r56 y0 x4 I)))) ∧ (¬ x2 = 0 → (wL_low (a1 >>> (18 &&& 31)) 8 I (fun r57 => (K429 (r57 - 1) y0 x4 I)))))) ∧ (r29 = 13 → ((x2 = 0 → (wL_low (a1 >>> (19 &&& 31)) 5 I (fun r58 => (K476 r58 r28 y0 x5 x4 I)))) ∧ (¬ x2 = 0 → (wL_low (a1 >>> (19 &&& 31)) 7 I (fun r59 => (K476 (r59 - 1) r28 y0 x5 x4 I)))))) ∧ (r29 = 14 → ((x2 = 0 → (wL_low (a1 >>> (19 &&& 31)) 5 I (fun r60 => (K476 r60 r28 y0 x5 x4 I)))) ∧ (¬ x2 = 0 → (wL_low (a1 >>> (19 &&& 31)) 7 I (fun r61 => (K476 (r61 - 1) r28 y0 x5 x4 I)))))) ∧ (r29 = 15 → ((x2 = 0 → (wL_low (a1 >>> (19 &&& 31)) 5 I (fun r62 => (K476 r62 r28 y0 x5 x4 I)))) ∧ (¬ x2 = 0 → (wL_low (a1 >>> (19 &&& 31)) 7 I (fun r63 => (K476 (r63 - 1) r28 y0 x5 x4 I)))))) ∧ (r29 = 16 → (wL_low (a1 >>> (19 &&& 31)) 5 I (fun r64 => (wL_low (a1 >>> (22 &&& 31)) 2 I (fun r65 => (wL_group x4 y0 r64 r65 I (fun r66 I67 => post r66 I67))))))) ∧ (r29 = 17 → ((x2 = 0 → (wL_low (a1 >>> (19 &&& 31)) 4 I (fun r68 => (K536 r68 x5 x4 I)))) ∧ (¬ x2 = 0 → (wL_low (a1 >>> (19 &&& 31)) 6 I (fun r69 => (K536 (r69 - 1) x5 x4 I)))))) ∧ (r29 = 18 → ((x2 = 0 → (wL_low (a1 >>> (19 &&& 31)) 4 I (fun r70 => (K536 r70 x5 x4 I)))) ∧ (¬ x2 = 0 → (wL_low (a1 >>> (19 &&& 31)) 6 I (fun r71 => (K536 (r71 - 1) x5 x4 I)))))) ∧ (r29 = 19 → (wL_rewrite x4 I (fun r72 I73 => post r72 I73))) ∧ (r29 = 20 → (wL_rows x4 I (fun r74 I75 => post r74 I75))) ∧ (r29 = 21 → ((x2 = 0 → (wL_low (a1 >>> (12 &&& 31)) 4 I (fun r76 => (K576 y0 r76 x4 I)))) ∧ (¬ x2 = 0 → (K576 y0 (a1 >>> (12 &&& 31)) x4 I)))) ∧ (r29 = 22 → ((x2 = 0 → (K602 x2 x5 x4 I)) ∧ (¬ x2 = 0 → (wL_low (a1 >>> (8 &&& 31)) 4 I (fun r77 => (K602 x2 x5 (r77 - 1) I)))))) ∧ (r29 = 23 → (wL_steps x4 I (fun r78 I79 => post r78 I79))) ∧ (r29 = 24 → (wL_low (a1 >>> (5 &&& 31)) 4 I (fun r80 => ((¬ r80 = 0 → (wL_budget 100000 I (fun r81 I82 => post r81 I82))) ∧ (r80 = 0 → ((x2 = 0 → (wL_low (a1 >>> (8 &&& 31)) 300 I (fun r83 => (K667 (1 + r83) I)))) ∧ (¬ x2 = 0 → (K667 (a1 >>> (8 &&& 31)) I)))))))) ∧ (r29 = 25 → (wL_low (a1 >>> (18 &&& 31)) 3 I (fun r84 => (wL_low (a1 >>> (20 &&& 31)) 2 I (fun r85 => (wL_link x3 y0 r84 r85 I (fun r86 I87 => post r86 I87))))))) ∧ (r29 = 26 → ((x2 = 0 → (wL_low (a1 >>> (5 &&& 31)) 7 I (fun r88 => (wL_cost (1 + r88) I (fun r89 I90 => post r89 I90))))) ∧ (¬ x2 = 0 → (wL_cost (a1 >>> (5 &&& 31)) I (fun r91 I92 => post r91 I92))))) ∧ (r29 = 27 → (wL_low (a1 >>> (8 &&& 31)) 3 I (fun r93 => (wL_view x3 r93 y0 r28 I (fun r94 I95 => post r94 I95))))) ∧ (r29 = 28 → (wL_low (a1 >>> (5 &&& 31)) 2 I (fun r96 => ((x2 = 0 → (wL_low (a1 >>> (8 &&& 31)) 2 I (fun r97 => (K778 r97 r96 I)))) ∧ (¬ x2 = 0 → (K778 (a1 >>> (8 &&& 31)) r96 I)))))) ∧ (¬ r29 = 0 → ¬ r29 = 1 → ¬ r29 = 2 → ¬ r29 = 3 → ¬ r29 = 4 → ¬ r29 = 5 → ¬ r29 = 6 → ¬ r29 = 7 → ¬ r29 = 8 → ¬ r29 = 9 → ¬ r29 = 10 → ¬ r29 = 11 → ¬ r29 = 12 → ¬ r29 = 13 → ¬ r29 = 14 → ¬ r29 = 15 → ¬ r29 = 16 → ¬ r29 = 17 → ¬ r29 = 18 → ¬ r29 = 19 → ¬ r29 = 20 → ¬ r29 = 21 → ¬ r29 = 22 → ¬ r29 = 23 → ¬ r29 = 24 → ¬ r29 = 25 → ¬ r29 = 26 → ¬ r29 = 27 → ¬ r29 = 28 → (wL_ways x3 I (fun r98 I99 => post r98 I99)))))))) := h
  refine V_istore (lo2 := [(6, .int y0), (0, .ref 0), (1, .int a1), (2, .int x2), (3, .int x3), (4, .int x4), (5, .int x5)]) dL_act_127 (by decide) rfl ?_
  refine V_iload_n dL_act_129 rfl rfl ?_
  refine V_bipush (v := 18) dL_act_130 (by decide) ?_
  refine V_ishr dL_act_132 ?_
  refine V_iconst (v := 2) dL_act_133 (by decide) ?_
  refine V_callSi (st := []) [.int (a1 >>> (18 &&& 31)), .int 2] dL_act_134 ok_mL_low rfl ml_RL_92 st_mL_low (Nat.le_of_ble_eq_true rfl) (by decide) (by decide) (by decide) (s_mL_low hS h) (fun r28 I9 J9 h => ?_)
  obtain ⟨rfl, rfl, h⟩ := h
  refine V_istore (lo2 := [(7, .int r28), (6, .int y0), (0, .ref 0), (1, .int a1), (2, .int x2), (3, .int x3), (4, .int x4), (5, .int x5)]) dL_act_137 (by decide) rfl ?_
  refine V_iload_n dL_act_139 rfl rfl ?_
  refine V_bipush (v := 30) dL_act_140 (by decide) ?_
  refine V_callSi (st := []) [.int a1, .int 30] dL_act_142 ok_mL_low rfl ml_RL_92 st_mL_low (Nat.le_of_ble_eq_true rfl) (by decide) (by decide) (by decide) (s_mL_low hS h) (fun r29 I9 J9 h => ?_)
  obtain ⟨rfl, rfl, h⟩ := h
  by_cases hc0 : r29 = 0
  · replace h := h.1 hc0
    refine V_tableIn 276 dL_act_145 (by rw [hc0]; decide) (by rw [hc0]; decide) (by rw [hc0]; first | done | rfl) rfl ?_
    refine V_aload_n dL_act_276 rfl rfl ?_
    refine V_iload_n dL_act_277 rfl rfl ?_
    refine V_if_eq 287 dL_act_278 rfl (fun hc => ?_) (fun hc => ?_)
    · replace h := h.1 hc
      refine V_iconst (v := 1) dL_act_287 (by decide) ?_
      refine V_iload_n dL_act_288 rfl rfl ?_
      refine V_iconst (v := 5) dL_act_289 (by decide) ?_
      refine V_ishr dL_act_290 ?_
      refine V_iconst (v := 3) dL_act_291 (by decide) ?_
      refine V_callSi (st := [.int 1, .ref 0]) [.int (a1 >>> (5 &&& 31)), .int 3] dL_act_292 ok_mL_low rfl ml_RL_92 st_mL_low (Nat.le_of_ble_eq_true rfl) (by decide) (by decide) (by decide) (s_mL_low hS h) (fun r31 I9 J9 h => ?_)
      obtain ⟨rfl, rfl, h⟩ := h
      refine V_iadd dL_act_295 ?_
      refine V_sub (lo2 := []) [] rfl ?_
      exact hK296 _ _ h
    · replace h := h.2 hc
      refine V_iload_n dL_act_281 rfl rfl ?_
      refine V_iconst (v := 5) dL_act_282 (by decide) ?_
      refine V_ishr dL_act_283 ?_
      refine V_goto 296 dL_act_284 rfl ?_
      refine V_sub (lo2 := []) [] rfl ?_
      exact hK296 _ _ h
  by_cases hc1 : r29 = 1
  · replace h := h.2.1 hc1
    refine V_tableIn 276 dL_act_145 (by rw [hc1]; decide) (by rw [hc1]; decide) (by rw [hc1]; first | done | rfl) rfl ?_
    refine V_aload_n dL_act_276 rfl rfl ?_
    refine V_iload_n dL_act_277 rfl rfl ?_
    refine V_if_eq 287 dL_act_278 rfl (fun hc => ?_) (fun hc => ?_)
    · replace h := h.1 hc
      refine V_iconst (v := 1) dL_act_287 (by decide) ?_
      refine V_iload_n dL_act_288 rfl rfl ?_
      refine V_iconst (v := 5) dL_act_289 (by decide) ?_
      refine V_ishr dL_act_290 ?_
      refine V_iconst (v := 3) dL_act_291 (by decide) ?_
      refine V_callSi (st := [.int 1, .ref 0]) [.int (a1 >>> (5 &&& 31)), .int 3] dL_act_292 ok_mL_low rfl ml_RL_92 st_mL_low (Nat.le_of_ble_eq_true rfl) (by decide) (by decide) (by decide) (s_mL_low hS h) (fun r32 I9 J9 h => ?_)
      obtain ⟨rfl, rfl, h⟩ := h
      refine V_iadd dL_act_295 ?_
      refine V_sub (lo2 := []) [] rfl ?_
      exact hK296 _ _ h
    · replace h := h.2 hc
      refine V_iload_n dL_act_281 rfl rfl ?_
      refine V_iconst (v := 5) dL_act_282 (by decide) ?_
      refine V_ishr dL_act_283 ?_
      refine V_goto 296 dL_act_284 rfl ?_
      refine V_sub (lo2 := []) [] rfl ?_
      exact hK296 _ _ h
  by_cases hc2 : r29 = 2
  · replace h := h.2.2.1 hc2
    refine V_tableIn 300 dL_act_145 (by rw [hc2]; decide) (by rw [hc2]; decide) (by rw [hc2]; first | done | rfl) rfl ?_
    refine V_aload_n dL_act_300 rfl rfl ?_
    refine V_iload_n dL_act_301 rfl rfl ?_
    refine V_iload_n dL_act_302 rfl rfl ?_
    refine V_bipush (v := 8) dL_act_303 (by decide) ?_
    refine V_ishr dL_act_305 ?_
    refine V_iconst (v := 4) dL_act_306 (by decide) ?_
    refine V_callSi (st := [.int x3, .ref 0]) [.int (a1 >>> (8 &&& 31)), .int 4] dL_act_307 ok_mL_low rfl ml_RL_92 st_mL_low (Nat.le_of_ble_eq_true rfl) (by decide) (by decide) (by decide) (s_mL_low hS h) (fun r33 I9 J9 h => ?_)
    obtain ⟨rfl, rfl, h⟩ := h
    refine V_iload_n dL_act_310 rfl rfl ?_
    refine V_if_eq 321 dL_act_311 rfl (fun hc => ?_) (fun hc => ?_)
    · replace h := h.1 hc
      refine V_iload_n dL_act_321 rfl rfl ?_
      refine V_bipush (v := 10) dL_act_322 (by decide) ?_
      refine V_ishr dL_act_324 ?_
      refine V_bipush (v := 7) dL_act_325 (by decide) ?_
      refine V_callSi (st := [.int r33, .int x3, .ref 0]) [.int (a1 >>> (10 &&& 31)), .int 7] dL_act_327 ok_mL_low rfl ml_RL_92 st_mL_low (Nat.le_of_ble_eq_true rfl) (by decide) (by decide) (by decide) (s_mL_low hS h) (fun r34 I9 J9 h => ?_)
      obtain ⟨rfl, rfl, h⟩ := h
      refine V_if_ne 339 dL_act_330 rfl (fun hc => ?_) (fun hc => ?_)
      · replace h := h.1 hc
        refine V_iload_n dL_act_339 rfl rfl ?_
        refine V_bipush (v := 13) dL_act_340 (by decide) ?_
        refine V_ishr dL_act_342 ?_
        refine V_iconst (v := 3) dL_act_343 (by decide) ?_
        refine V_callSi (st := [.int r33, .int x3, .ref 0]) [.int (a1 >>> (13 &&& 31)), .int 3] dL_act_344 ok_mL_low rfl ml_RL_92 st_mL_low (Nat.le_of_ble_eq_true rfl) (by decide) (by decide) (by decide) (s_mL_low hS h) (fun r35 I9 J9 h => ?_)
        obtain ⟨rfl, rfl, h⟩ := h
        refine V_sub (lo2 := [(1, .int a1)]) [3] rfl ?_
        exact hK347 _ _ _ _ h
      · replace h := h.2 hc
        refine V_sipush (v := (-1000)) dL_act_333 (by decide) ?_
        refine V_goto 347 dL_act_336 rfl ?_
        refine V_sub (lo2 := [(1, .int a1)]) [3] rfl ?_
        exact hK347 _ _ _ _ h
    · replace h := h.2 hc
      refine V_iload_n dL_act_314 rfl rfl ?_
      refine V_bipush (v := 10) dL_act_315 (by decide) ?_
      refine V_ishr dL_act_317 ?_
      refine V_goto 347 dL_act_318 rfl ?_
      refine V_sub (lo2 := [(1, .int a1)]) [3] rfl ?_
      exact hK347 _ _ _ _ h
  by_cases hc3 : r29 = 3
  · replace h := h.2.2.2.1 hc3
    refine V_tableIn 300 dL_act_145 (by rw [hc3]; decide) (by rw [hc3]; decide) (by rw [hc3]; first | done | rfl) rfl ?_
    refine V_aload_n dL_act_300 rfl rfl ?_
    refine V_iload_n dL_act_301 rfl rfl ?_
    refine V_iload_n dL_act_302 rfl rfl ?_
    refine V_bipush (v := 8) dL_act_303 (by decide) ?_
    refine V_ishr dL_act_305 ?_
    refine V_iconst (v := 4) dL_act_306 (by decide) ?_
    refine V_callSi (st := [.int x3, .ref 0]) [.int (a1 >>> (8 &&& 31)), .int 4] dL_act_307 ok_mL_low rfl ml_RL_92 st_mL_low (Nat.le_of_ble_eq_true rfl) (by decide) (by decide) (by decide) (s_mL_low hS h) (fun r36 I9 J9 h => ?_)
    obtain ⟨rfl, rfl, h⟩ := h
    refine V_iload_n dL_act_310 rfl rfl ?_
    refine V_if_eq 321 dL_act_311 rfl (fun hc => ?_) (fun hc => ?_)
    · replace h := h.1 hc
      refine V_iload_n dL_act_321 rfl rfl ?_
      refine V_bipush (v := 10) dL_act_322 (by decide) ?_
      refine V_ishr dL_act_324 ?_
      refine V_bipush (v := 7) dL_act_325 (by decide) ?_
      refine V_callSi (st := [.int r36, .int x3, .ref 0]) [.int (a1 >>> (10 &&& 31)), .int 7] dL_act_327 ok_mL_low rfl ml_RL_92 st_mL_low (Nat.le_of_ble_eq_true rfl) (by decide) (by decide) (by decide) (s_mL_low hS h) (fun r37 I9 J9 h => ?_)
      obtain ⟨rfl, rfl, h⟩ := h
      refine V_if_ne 339 dL_act_330 rfl (fun hc => ?_) (fun hc => ?_)
      · replace h := h.1 hc
        refine V_iload_n dL_act_339 rfl rfl ?_
        refine V_bipush (v := 13) dL_act_340 (by decide) ?_
        refine V_ishr dL_act_342 ?_
        refine V_iconst (v := 3) dL_act_343 (by decide) ?_
        refine V_callSi (st := [.int r36, .int x3, .ref 0]) [.int (a1 >>> (13 &&& 31)), .int 3] dL_act_344 ok_mL_low rfl ml_RL_92 st_mL_low (Nat.le_of_ble_eq_true rfl) (by decide) (by decide) (by decide) (s_mL_low hS h) (fun r38 I9 J9 h => ?_)
        obtain ⟨rfl, rfl, h⟩ := h
        refine V_sub (lo2 := [(1, .int a1)]) [3] rfl ?_
        exact hK347 _ _ _ _ h
      · replace h := h.2 hc
        refine V_sipush (v := (-1000)) dL_act_333 (by decide) ?_
        refine V_goto 347 dL_act_336 rfl ?_
        refine V_sub (lo2 := [(1, .int a1)]) [3] rfl ?_
        exact hK347 _ _ _ _ h
    · replace h := h.2 hc
      refine V_iload_n dL_act_314 rfl rfl ?_
      refine V_bipush (v := 10) dL_act_315 (by decide) ?_
      refine V_ishr dL_act_317 ?_
      refine V_goto 347 dL_act_318 rfl ?_
      refine V_sub (lo2 := [(1, .int a1)]) [3] rfl ?_
      exact hK347 _ _ _ _ h
  by_cases hc4 : r29 = 4
  · replace h := h.2.2.2.2.1 hc4
    refine V_tableIn 300 dL_act_145 (by rw [hc4]; decide) (by rw [hc4]; decide) (by rw [hc4]; first | done | rfl) rfl ?_
    refine V_aload_n dL_act_300 rfl rfl ?_
    refine V_iload_n dL_act_301 rfl rfl ?_
    refine V_iload_n dL_act_302 rfl rfl ?_
    refine V_bipush (v := 8) dL_act_303 (by decide) ?_
    refine V_ishr dL_act_305 ?_
    refine V_iconst (v := 4) dL_act_306 (by decide) ?_
    refine V_callSi (st := [.int x3, .ref 0]) [.int (a1 >>> (8 &&& 31)), .int 4] dL_act_307 ok_mL_low rfl ml_RL_92 st_mL_low (Nat.le_of_ble_eq_true rfl) (by decide) (by decide) (by decide) (s_mL_low hS h) (fun r39 I9 J9 h => ?_)
    obtain ⟨rfl, rfl, h⟩ := h
    refine V_iload_n dL_act_310 rfl rfl ?_
    refine V_if_eq 321 dL_act_311 rfl (fun hc => ?_) (fun hc => ?_)
    · replace h := h.1 hc
      refine V_iload_n dL_act_321 rfl rfl ?_
      refine V_bipush (v := 10) dL_act_322 (by decide) ?_
      refine V_ishr dL_act_324 ?_
      refine V_bipush (v := 7) dL_act_325 (by decide) ?_
      refine V_callSi (st := [.int r39, .int x3, .ref 0]) [.int (a1 >>> (10 &&& 31)), .int 7] dL_act_327 ok_mL_low rfl ml_RL_92 st_mL_low (Nat.le_of_ble_eq_true rfl) (by decide) (by decide) (by decide) (s_mL_low hS h) (fun r40 I9 J9 h => ?_)
      obtain ⟨rfl, rfl, h⟩ := h
      refine V_if_ne 339 dL_act_330 rfl (fun hc => ?_) (fun hc => ?_)
      · replace h := h.1 hc
        refine V_iload_n dL_act_339 rfl rfl ?_
        refine V_bipush (v := 13) dL_act_340 (by decide) ?_
        refine V_ishr dL_act_342 ?_
        refine V_iconst (v := 3) dL_act_343 (by decide) ?_
        refine V_callSi (st := [.int r39, .int x3, .ref 0]) [.int (a1 >>> (13 &&& 31)), .int 3] dL_act_344 ok_mL_low rfl ml_RL_92 st_mL_low (Nat.le_of_ble_eq_true rfl) (by decide) (by decide) (by decide) (s_mL_low hS h) (fun r41 I9 J9 h => ?_)
        obtain ⟨rfl, rfl, h⟩ := h
        refine V_sub (lo2 := [(1, .int a1)]) [3] rfl ?_
        exact hK347 _ _ _ _ h
      · replace h := h.2 hc
        refine V_sipush (v := (-1000)) dL_act_333 (by decide) ?_
        refine V_goto 347 dL_act_336 rfl ?_
        refine V_sub (lo2 := [(1, .int a1)]) [3] rfl ?_
        exact hK347 _ _ _ _ h
    · replace h := h.2 hc
      refine V_iload_n dL_act_314 rfl rfl ?_
      refine V_bipush (v := 10) dL_act_315 (by decide) ?_
      refine V_ishr dL_act_317 ?_
      refine V_goto 347 dL_act_318 rfl ?_
      refine V_sub (lo2 := [(1, .int a1)]) [3] rfl ?_
      exact hK347 _ _ _ _ h
  by_cases hc5 : r29 = 5
  · replace h := h.2.2.2.2.2.1 hc5
    refine V_tableIn 300 dL_act_145 (by rw [hc5]; decide) (by rw [hc5]; decide) (by rw [hc5]; first | done | rfl) rfl ?_
    refine V_aload_n dL_act_300 rfl rfl ?_
    refine V_iload_n dL_act_301 rfl rfl ?_
    refine V_iload_n dL_act_302 rfl rfl ?_
    refine V_bipush (v := 8) dL_act_303 (by decide) ?_
    refine V_ishr dL_act_305 ?_
    refine V_iconst (v := 4) dL_act_306 (by decide) ?_
    refine V_callSi (st := [.int x3, .ref 0]) [.int (a1 >>> (8 &&& 31)), .int 4] dL_act_307 ok_mL_low rfl ml_RL_92 st_mL_low (Nat.le_of_ble_eq_true rfl) (by decide) (by decide) (by decide) (s_mL_low hS h) (fun r42 I9 J9 h => ?_)
    obtain ⟨rfl, rfl, h⟩ := h
    refine V_iload_n dL_act_310 rfl rfl ?_
    refine V_if_eq 321 dL_act_311 rfl (fun hc => ?_) (fun hc => ?_)
    · replace h := h.1 hc
      refine V_iload_n dL_act_321 rfl rfl ?_
      refine V_bipush (v := 10) dL_act_322 (by decide) ?_
      refine V_ishr dL_act_324 ?_
      refine V_bipush (v := 7) dL_act_325 (by decide) ?_
      refine V_callSi (st := [.int r42, .int x3, .ref 0]) [.int (a1 >>> (10 &&& 31)), .int 7] dL_act_327 ok_mL_low rfl ml_RL_92 st_mL_low (Nat.le_of_ble_eq_true rfl) (by decide) (by decide) (by decide) (s_mL_low hS h) (fun r43 I9 J9 h => ?_)
      obtain ⟨rfl, rfl, h⟩ := h
      refine V_if_ne 339 dL_act_330 rfl (fun hc => ?_) (fun hc => ?_)
      · replace h := h.1 hc
        refine V_iload_n dL_act_339 rfl rfl ?_
        refine V_bipush (v := 13) dL_act_340 (by decide) ?_
        refine V_ishr dL_act_342 ?_
        refine V_iconst (v := 3) dL_act_343 (by decide) ?_
        refine V_callSi (st := [.int r42, .int x3, .ref 0]) [.int (a1 >>> (13 &&& 31)), .int 3] dL_act_344 ok_mL_low rfl ml_RL_92 st_mL_low (Nat.le_of_ble_eq_true rfl) (by decide) (by decide) (by decide) (s_mL_low hS h) (fun r44 I9 J9 h => ?_)
        obtain ⟨rfl, rfl, h⟩ := h
        refine V_sub (lo2 := [(1, .int a1)]) [3] rfl ?_
        exact hK347 _ _ _ _ h
      · replace h := h.2 hc
        refine V_sipush (v := (-1000)) dL_act_333 (by decide) ?_
        refine V_goto 347 dL_act_336 rfl ?_
        refine V_sub (lo2 := [(1, .int a1)]) [3] rfl ?_
        exact hK347 _ _ _ _ h
    · replace h := h.2 hc
      refine V_iload_n dL_act_314 rfl rfl ?_
      refine V_bipush (v := 10) dL_act_315 (by decide) ?_
      refine V_ishr dL_act_317 ?_
      refine V_goto 347 dL_act_318 rfl ?_
      refine V_sub (lo2 := [(1, .int a1)]) [3] rfl ?_
      exact hK347 _ _ _ _ h
  by_cases hc6 : r29 = 6
  · replace h := h.2.2.2.2.2.2.1 hc6
    refine V_tableIn 300 dL_act_145 (by rw [hc6]; decide) (by rw [hc6]; decide) (by rw [hc6]; first | done | rfl) rfl ?_
    refine V_aload_n dL_act_300 rfl rfl ?_
    refine V_iload_n dL_act_301 rfl rfl ?_
    refine V_iload_n dL_act_302 rfl rfl ?_
    refine V_bipush (v := 8) dL_act_303 (by decide) ?_
    refine V_ishr dL_act_305 ?_
    refine V_iconst (v := 4) dL_act_306 (by decide) ?_
    refine V_callSi (st := [.int x3, .ref 0]) [.int (a1 >>> (8 &&& 31)), .int 4] dL_act_307 ok_mL_low rfl ml_RL_92 st_mL_low (Nat.le_of_ble_eq_true rfl) (by decide) (by decide) (by decide) (s_mL_low hS h) (fun r45 I9 J9 h => ?_)
    obtain ⟨rfl, rfl, h⟩ := h
    refine V_iload_n dL_act_310 rfl rfl ?_
    refine V_if_eq 321 dL_act_311 rfl (fun hc => ?_) (fun hc => ?_)
    · replace h := h.1 hc
      refine V_iload_n dL_act_321 rfl rfl ?_
      refine V_bipush (v := 10) dL_act_322 (by decide) ?_
      refine V_ishr dL_act_324 ?_
      refine V_bipush (v := 7) dL_act_325 (by decide) ?_
      refine V_callSi (st := [.int r45, .int x3, .ref 0]) [.int (a1 >>> (10 &&& 31)), .int 7] dL_act_327 ok_mL_low rfl ml_RL_92 st_mL_low (Nat.le_of_ble_eq_true rfl) (by decide) (by decide) (by decide) (s_mL_low hS h) (fun r46 I9 J9 h => ?_)
      obtain ⟨rfl, rfl, h⟩ := h
      refine V_if_ne 339 dL_act_330 rfl (fun hc => ?_) (fun hc => ?_)
      · replace h := h.1 hc
        refine V_iload_n dL_act_339 rfl rfl ?_
        refine V_bipush (v := 13) dL_act_340 (by decide) ?_
        refine V_ishr dL_act_342 ?_
        refine V_iconst (v := 3) dL_act_343 (by decide) ?_
        refine V_callSi (st := [.int r45, .int x3, .ref 0]) [.int (a1 >>> (13 &&& 31)), .int 3] dL_act_344 ok_mL_low rfl ml_RL_92 st_mL_low (Nat.le_of_ble_eq_true rfl) (by decide) (by decide) (by decide) (s_mL_low hS h) (fun r47 I9 J9 h => ?_)
        obtain ⟨rfl, rfl, h⟩ := h
        refine V_sub (lo2 := [(1, .int a1)]) [3] rfl ?_
        exact hK347 _ _ _ _ h
      · replace h := h.2 hc
        refine V_sipush (v := (-1000)) dL_act_333 (by decide) ?_
        refine V_goto 347 dL_act_336 rfl ?_
        refine V_sub (lo2 := [(1, .int a1)]) [3] rfl ?_
        exact hK347 _ _ _ _ h
    · replace h := h.2 hc
      refine V_iload_n dL_act_314 rfl rfl ?_
      refine V_bipush (v := 10) dL_act_315 (by decide) ?_
      refine V_ishr dL_act_317 ?_
      refine V_goto 347 dL_act_318 rfl ?_
      refine V_sub (lo2 := [(1, .int a1)]) [3] rfl ?_
      exact hK347 _ _ _ _ h
  by_cases hc7 : r29 = 7
  · replace h := h.2.2.2.2.2.2.2.1 hc7
    refine V_tableIn 374 dL_act_145 (by rw [hc7]; decide) (by rw [hc7]; decide) (by rw [hc7]; first | done | rfl) rfl ?_
    refine V_aload_n dL_act_374 rfl rfl ?_
    refine V_iload_n dL_act_375 rfl rfl ?_
    refine V_iload_n dL_act_376 rfl rfl ?_
    refine V_if_eq 387 dL_act_377 rfl (fun hc => ?_) (fun hc => ?_)
    · replace h := h.1 hc
      refine V_iconst (v := 0) dL_act_387 (by decide) ?_
      refine V_sub (lo2 := []) [] rfl ?_
      exact hK388 _ _ _ h
    · replace h := h.2 hc
      refine V_iload_n dL_act_380 rfl rfl ?_
      refine V_bipush (v := 8) dL_act_381 (by decide) ?_
      refine V_ishr dL_act_383 ?_
      refine V_goto 388 dL_act_384 rfl ?_
      refine V_sub (lo2 := []) [] rfl ?_
      exact hK388 _ _ _ h
  by_cases hc8 : r29 = 8
  · replace h := h.2.2.2.2.2.2.2.2.1 hc8
    refine V_tableIn 392 dL_act_145 (by rw [hc8]; decide) (by rw [hc8]; decide) (by rw [hc8]; first | done | rfl) rfl ?_
    refine V_aload_n dL_act_392 rfl rfl ?_
    refine V_iload_n dL_act_393 rfl rfl ?_
    refine V_callSXi (st := []) [.ref 0, .int x3] dL_act_394 ok_mL_scan (by decide) ml_RL_106 st_mL_scan (Nat.le_of_ble_eq_true rfl) (by decide) (by decide) (by decide) (s_mL_scan hS h) (fun r48 I49 J9 h => ?_)
    obtain ⟨rfl, h⟩ := h
    exact V_iret dL_act_397 rfl (by decide) (by decide) ⟨_, rfl, rfl, rfl, h⟩
  by_cases hc9 : r29 = 9
  · replace h := h.2.2.2.2.2.2.2.2.2.1 hc9
    refine V_tableIn 392 dL_act_145 (by rw [hc9]; decide) (by rw [hc9]; decide) (by rw [hc9]; first | done | rfl) rfl ?_
    refine V_aload_n dL_act_392 rfl rfl ?_
    refine V_iload_n dL_act_393 rfl rfl ?_
    refine V_callSXi (st := []) [.ref 0, .int x3] dL_act_394 ok_mL_scan (by decide) ml_RL_106 st_mL_scan (Nat.le_of_ble_eq_true rfl) (by decide) (by decide) (by decide) (s_mL_scan hS h) (fun r50 I51 J9 h => ?_)
    obtain ⟨rfl, h⟩ := h
    exact V_iret dL_act_397 rfl (by decide) (by decide) ⟨_, rfl, rfl, rfl, h⟩
  by_cases hc10 : r29 = 10
  · replace h := h.2.2.2.2.2.2.2.2.2.2.1 hc10
    refine V_tableIn 398 dL_act_145 (by rw [hc10]; decide) (by rw [hc10]; decide) (by rw [hc10]; first | done | rfl) rfl ?_
    refine V_aload_n dL_act_398 rfl rfl ?_
    refine V_iload dL_act_399 rfl ?_
    refine V_iload dL_act_401 rfl ?_
    refine V_iload_n dL_act_403 rfl rfl ?_
    refine V_if_eq 421 dL_act_404 rfl (fun hc => ?_) (fun hc => ?_)
    · replace h := h.1 hc
      refine V_iload_n dL_act_421 rfl rfl ?_
      refine V_bipush (v := 18) dL_act_422 (by decide) ?_
      refine V_ishr dL_act_424 ?_
      refine V_iconst (v := 4) dL_act_425 (by decide) ?_
      refine V_callSi (st := [.int y0, .int x4, .ref 0]) [.int (a1 >>> (18 &&& 31)), .int 4] dL_act_426 ok_mL_low rfl ml_RL_92 st_mL_low (Nat.le_of_ble_eq_true rfl) (by decide) (by decide) (by decide) (s_mL_low hS h) (fun r52 I9 J9 h => ?_)
      obtain ⟨rfl, rfl, h⟩ := h
      refine V_sub (lo2 := [(1, .int a1)]) [3] rfl ?_
      exact hK429 _ _ _ _ h
    · replace h := h.2 hc
      refine V_iload_n dL_act_407 rfl rfl ?_
      refine V_bipush (v := 18) dL_act_408 (by decide) ?_
      refine V_ishr dL_act_410 ?_
      refine V_bipush (v := 8) dL_act_411 (by decide) ?_
      refine V_callSi (st := [.int y0, .int x4, .ref 0]) [.int (a1 >>> (18 &&& 31)), .int 8] dL_act_413 ok_mL_low rfl ml_RL_92 st_mL_low (Nat.le_of_ble_eq_true rfl) (by decide) (by decide) (by decide) (s_mL_low hS h) (fun r53 I9 J9 h => ?_)
      obtain ⟨rfl, rfl, h⟩ := h
      refine V_iconst (v := 1) dL_act_416 (by decide) ?_
      refine V_isub dL_act_417 ?_
      refine V_goto 429 dL_act_418 rfl ?_
      refine V_sub (lo2 := [(1, .int a1)]) [3] rfl ?_
      exact hK429 _ _ _ _ h
  by_cases hc11 : r29 = 11
  · replace h := h.2.2.2.2.2.2.2.2.2.2.2.1 hc11
    refine V_tableIn 398 dL_act_145 (by rw [hc11]; decide) (by rw [hc11]; decide) (by rw [hc11]; first | done | rfl) rfl ?_
    refine V_aload_n dL_act_398 rfl rfl ?_
    refine V_iload dL_act_399 rfl ?_
    refine V_iload dL_act_401 rfl ?_
    refine V_iload_n dL_act_403 rfl rfl ?_
    refine V_if_eq 421 dL_act_404 rfl (fun hc => ?_) (fun hc => ?_)
    · replace h := h.1 hc
      refine V_iload_n dL_act_421 rfl rfl ?_
      refine V_bipush (v := 18) dL_act_422 (by decide) ?_
      refine V_ishr dL_act_424 ?_
      refine V_iconst (v := 4) dL_act_425 (by decide) ?_
      refine V_callSi (st := [.int y0, .int x4, .ref 0]) [.int (a1 >>> (18 &&& 31)), .int 4] dL_act_426 ok_mL_low rfl ml_RL_92 st_mL_low (Nat.le_of_ble_eq_true rfl) (by decide) (by decide) (by decide) (s_mL_low hS h) (fun r54 I9 J9 h => ?_)
      obtain ⟨rfl, rfl, h⟩ := h
      refine V_sub (lo2 := [(1, .int a1)]) [3] rfl ?_
      exact hK429 _ _ _ _ h
    · replace h := h.2 hc
      refine V_iload_n dL_act_407 rfl rfl ?_
      refine V_bipush (v := 18) dL_act_408 (by decide) ?_
      refine V_ishr dL_act_410 ?_
      refine V_bipush (v := 8) dL_act_411 (by decide) ?_
      refine V_callSi (st := [.int y0, .int x4, .ref 0]) [.int (a1 >>> (18 &&& 31)), .int 8] dL_act_413 ok_mL_low rfl ml_RL_92 st_mL_low (Nat.le_of_ble_eq_true rfl) (by decide) (by decide) (by decide) (s_mL_low hS h) (fun r55 I9 J9 h => ?_)
      obtain ⟨rfl, rfl, h⟩ := h
      refine V_iconst (v := 1) dL_act_416 (by decide) ?_
      refine V_isub dL_act_417 ?_
      refine V_goto 429 dL_act_418 rfl ?_
      refine V_sub (lo2 := [(1, .int a1)]) [3] rfl ?_
      exact hK429 _ _ _ _ h
  by_cases hc12 : r29 = 12
  · replace h := h.2.2.2.2.2.2.2.2.2.2.2.2.1 hc12
    refine V_tableIn 398 dL_act_145 (by rw [hc12]; decide) (by rw [hc12]; decide) (by rw [hc12]; first | done | rfl) rfl ?_
    refine V_aload_n dL_act_398 rfl rfl ?_
    refine V_iload dL_act_399 rfl ?_
    refine V_iload dL_act_401 rfl ?_
    refine V_iload_n dL_act_403 rfl rfl ?_
    refine V_if_eq 421 dL_act_404 rfl (fun hc => ?_) (fun hc => ?_)
    · replace h := h.1 hc
      refine V_iload_n dL_act_421 rfl rfl ?_
      refine V_bipush (v := 18) dL_act_422 (by decide) ?_
      refine V_ishr dL_act_424 ?_
      refine V_iconst (v := 4) dL_act_425 (by decide) ?_
      refine V_callSi (st := [.int y0, .int x4, .ref 0]) [.int (a1 >>> (18 &&& 31)), .int 4] dL_act_426 ok_mL_low rfl ml_RL_92 st_mL_low (Nat.le_of_ble_eq_true rfl) (by decide) (by decide) (by decide) (s_mL_low hS h) (fun r56 I9 J9 h => ?_)
      obtain ⟨rfl, rfl, h⟩ := h
      refine V_sub (lo2 := [(1, .int a1)]) [3] rfl ?_
      exact hK429 _ _ _ _ h
    · replace h := h.2 hc
      refine V_iload_n dL_act_407 rfl rfl ?_
      refine V_bipush (v := 18) dL_act_408 (by decide) ?_
      refine V_ishr dL_act_410 ?_
      refine V_bipush (v := 8) dL_act_411 (by decide) ?_
      refine V_callSi (st := [.int y0, .int x4, .ref 0]) [.int (a1 >>> (18 &&& 31)), .int 8] dL_act_413 ok_mL_low rfl ml_RL_92 st_mL_low (Nat.le_of_ble_eq_true rfl) (by decide) (by decide) (by decide) (s_mL_low hS h) (fun r57 I9 J9 h => ?_)
      obtain ⟨rfl, rfl, h⟩ := h
      refine V_iconst (v := 1) dL_act_416 (by decide) ?_
      refine V_isub dL_act_417 ?_
      refine V_goto 429 dL_act_418 rfl ?_
      refine V_sub (lo2 := [(1, .int a1)]) [3] rfl ?_
      exact hK429 _ _ _ _ h
  by_cases hc13 : r29 = 13
  · replace h := h.2.2.2.2.2.2.2.2.2.2.2.2.2.1 hc13
    refine V_tableIn 441 dL_act_145 (by rw [hc13]; decide) (by rw [hc13]; decide) (by rw [hc13]; first | done | rfl) rfl ?_
    refine V_aload_n dL_act_441 rfl rfl ?_
    refine V_iload dL_act_442 rfl ?_
    refine V_iload dL_act_444 rfl ?_
    refine V_iload dL_act_446 rfl ?_
    refine V_iload dL_act_448 rfl ?_
    refine V_iload_n dL_act_450 rfl rfl ?_
    refine V_if_eq 468 dL_act_451 rfl (fun hc => ?_) (fun hc => ?_)
    · replace h := h.1 hc
      refine V_iload_n dL_act_468 rfl rfl ?_
      refine V_bipush (v := 19) dL_act_469 (by decide) ?_
      refine V_ishr dL_act_471 ?_
      refine V_iconst (v := 5) dL_act_472 (by decide) ?_
      refine V_callSi (st := [.int r28, .int y0, .int x5, .int x4, .ref 0]) [.int (a1 >>> (19 &&& 31)), .int 5] dL_act_473 ok_mL_low rfl ml_RL_92 st_mL_low (Nat.le_of_ble_eq_true rfl) (by decide) (by decide) (by decide) (s_mL_low hS h) (fun r58 I9 J9 h => ?_)
      obtain ⟨rfl, rfl, h⟩ := h
      refine V_sub (lo2 := []) [] rfl ?_
      exact hK476 _ _ _ _ _ _ h
    · replace h := h.2 hc
      refine V_iload_n dL_act_454 rfl rfl ?_
      refine V_bipush (v := 19) dL_act_455 (by decide) ?_
      refine V_ishr dL_act_457 ?_
      refine V_bipush (v := 7) dL_act_458 (by decide) ?_
      refine V_callSi (st := [.int r28, .int y0, .int x5, .int x4, .ref 0]) [.int (a1 >>> (19 &&& 31)), .int 7] dL_act_460 ok_mL_low rfl ml_RL_92 st_mL_low (Nat.le_of_ble_eq_true rfl) (by decide) (by decide) (by decide) (s_mL_low hS h) (fun r59 I9 J9 h => ?_)
      obtain ⟨rfl, rfl, h⟩ := h
      refine V_iconst (v := 1) dL_act_463 (by decide) ?_
      refine V_isub dL_act_464 ?_
      refine V_goto 476 dL_act_465 rfl ?_
      refine V_sub (lo2 := []) [] rfl ?_
      exact hK476 _ _ _ _ _ _ h
  by_cases hc14 : r29 = 14
  · replace h := h.2.2.2.2.2.2.2.2.2.2.2.2.2.2.1 hc14
    refine V_tableIn 441 dL_act_145 (by rw [hc14]; decide) (by rw [hc14]; decide) (by rw [hc14]; first | done | rfl) rfl ?_
    refine V_aload_n dL_act_441 rfl rfl ?_
    refine V_iload dL_act_442 rfl ?_
    refine V_iload dL_act_444 rfl ?_
    refine V_iload dL_act_446 rfl ?_
    refine V_iload dL_act_448 rfl ?_
    refine V_iload_n dL_act_450 rfl rfl ?_
    refine V_if_eq 468 dL_act_451 rfl (fun hc => ?_) (fun hc => ?_)
    · replace h := h.1 hc
      refine V_iload_n dL_act_468 rfl rfl ?_
      refine V_bipush (v := 19) dL_act_469 (by decide) ?_
      refine V_ishr dL_act_471 ?_
      refine V_iconst (v := 5) dL_act_472 (by decide) ?_
      refine V_callSi (st := [.int r28, .int y0, .int x5, .int x4, .ref 0]) [.int (a1 >>> (19 &&& 31)), .int 5] dL_act_473 ok_mL_low rfl ml_RL_92 st_mL_low (Nat.le_of_ble_eq_true rfl) (by decide) (by decide) (by decide) (s_mL_low hS h) (fun r60 I9 J9 h => ?_)
      obtain ⟨rfl, rfl, h⟩ := h
      refine V_sub (lo2 := []) [] rfl ?_
      exact hK476 _ _ _ _ _ _ h
    · replace h := h.2 hc
      refine V_iload_n dL_act_454 rfl rfl ?_
      refine V_bipush (v := 19) dL_act_455 (by decide) ?_
      refine V_ishr dL_act_457 ?_
      refine V_bipush (v := 7) dL_act_458 (by decide) ?_
      refine V_callSi (st := [.int r28, .int y0, .int x5, .int x4, .ref 0]) [.int (a1 >>> (19 &&& 31)), .int 7] dL_act_460 ok_mL_low rfl ml_RL_92 st_mL_low (Nat.le_of_ble_eq_true rfl) (by decide) (by decide) (by decide) (s_mL_low hS h) (fun r61 I9 J9 h => ?_)
      obtain ⟨rfl, rfl, h⟩ := h
      refine V_iconst (v := 1) dL_act_463 (by decide) ?_
      refine V_isub dL_act_464 ?_
      refine V_goto 476 dL_act_465 rfl ?_
      refine V_sub (lo2 := []) [] rfl ?_
      exact hK476 _ _ _ _ _ _ h
  by_cases hc15 : r29 = 15
  · replace h := h.2.2.2.2.2.2.2.2.2.2.2.2.2.2.2.1 hc15
    refine V_tableIn 441 dL_act_145 (by rw [hc15]; decide) (by rw [hc15]; decide) (by rw [hc15]; first | done | rfl) rfl ?_
    refine V_aload_n dL_act_441 rfl rfl ?_
    refine V_iload dL_act_442 rfl ?_
    refine V_iload dL_act_444 rfl ?_
    refine V_iload dL_act_446 rfl ?_
    refine V_iload dL_act_448 rfl ?_
    refine V_iload_n dL_act_450 rfl rfl ?_
    refine V_if_eq 468 dL_act_451 rfl (fun hc => ?_) (fun hc => ?_)
    · replace h := h.1 hc
      refine V_iload_n dL_act_468 rfl rfl ?_
      refine V_bipush (v := 19) dL_act_469 (by decide) ?_
      refine V_ishr dL_act_471 ?_
      refine V_iconst (v := 5) dL_act_472 (by decide) ?_
      refine V_callSi (st := [.int r28, .int y0, .int x5, .int x4, .ref 0]) [.int (a1 >>> (19 &&& 31)), .int 5] dL_act_473 ok_mL_low rfl ml_RL_92 st_mL_low (Nat.le_of_ble_eq_true rfl) (by decide) (by decide) (by decide) (s_mL_low hS h) (fun r62 I9 J9 h => ?_)
      obtain ⟨rfl, rfl, h⟩ := h
      refine V_sub (lo2 := []) [] rfl ?_
      exact hK476 _ _ _ _ _ _ h
    · replace h := h.2 hc
      refine V_iload_n dL_act_454 rfl rfl ?_
      refine V_bipush (v := 19) dL_act_455 (by decide) ?_
      refine V_ishr dL_act_457 ?_
      refine V_bipush (v := 7) dL_act_458 (by decide) ?_
      refine V_callSi (st := [.int r28, .int y0, .int x5, .int x4, .ref 0]) [.int (a1 >>> (19 &&& 31)), .int 7] dL_act_460 ok_mL_low rfl ml_RL_92 st_mL_low (Nat.le_of_ble_eq_true rfl) (by decide) (by decide) (by decide) (s_mL_low hS h) (fun r63 I9 J9 h => ?_)
      obtain ⟨rfl, rfl, h⟩ := h
      refine V_iconst (v := 1) dL_act_463 (by decide) ?_
      refine V_isub dL_act_464 ?_
      refine V_goto 476 dL_act_465 rfl ?_
      refine V_sub (lo2 := []) [] rfl ?_
      exact hK476 _ _ _ _ _ _ h
  by_cases hc16 : r29 = 16
  · replace h := h.2.2.2.2.2.2.2.2.2.2.2.2.2.2.2.2.1 hc16
    refine V_tableIn 480 dL_act_145 (by rw [hc16]; decide) (by rw [hc16]; decide) (by rw [hc16]; first | done | rfl) rfl ?_
    refine V_aload_n dL_act_480 rfl rfl ?_
    refine V_iload dL_act_481 rfl ?_
    refine V_iload dL_act_483 rfl ?_
    refine V_iload_n dL_act_485 rfl rfl ?_
    refine V_bipush (v := 19) dL_act_486 (by decide) ?_
    refine V_ishr dL_act_488 ?_
    refine V_iconst (v := 5) dL_act_489 (by decide) ?_
    refine V_callSi (st := [.int y0, .int x4, .ref 0]) [.int (a1 >>> (19 &&& 31)), .int 5] dL_act_490 ok_mL_low rfl ml_RL_92 st_mL_low (Nat.le_of_ble_eq_true rfl) (by decide) (by decide) (by decide) (s_mL_low hS h) (fun r64 I9 J9 h => ?_)
    obtain ⟨rfl, rfl, h⟩ := h
    refine V_iload_n dL_act_493 rfl rfl ?_
    refine V_bipush (v := 22) dL_act_494 (by decide) ?_
    refine V_ishr dL_act_496 ?_
    refine V_iconst (v := 2) dL_act_497 (by decide) ?_
    refine V_callSi (st := [.int r64, .int y0, .int x4, .ref 0]) [.int (a1 >>> (22 &&& 31)), .int 2] dL_act_498 ok_mL_low rfl ml_RL_92 st_mL_low (Nat.le_of_ble_eq_true rfl) (by decide) (by decide) (by decide) (s_mL_low hS h) (fun r65 I9 J9 h => ?_)
    obtain ⟨rfl, rfl, h⟩ := h
    refine V_callSXi (st := []) [.ref 0, .int x4, .int y0, .int r64, .int r65] dL_act_501 ok_mL_group (by decide) ml_RL_113 st_mL_group (Nat.le_of_ble_eq_true rfl) (by decide) (by decide) (by decide) (s_mL_group hS h) (fun r66 I67 J9 h => ?_)
    obtain ⟨rfl, h⟩ := h
    exact V_iret dL_act_504 rfl (by decide) (by decide) ⟨_, rfl, rfl, rfl, h⟩
  by_cases hc17 : r29 = 17
  · replace h := h.2.2.2.2.2.2.2.2.2.2.2.2.2.2.2.2.2.1 hc17
    refine V_tableIn 505 dL_act_145 (by rw [hc17]; decide) (by rw [hc17]; decide) (by rw [hc17]; first | done | rfl) rfl ?_
    refine V_aload_n dL_act_505 rfl rfl ?_
    refine V_iload dL_act_506 rfl ?_
    refine V_iload dL_act_508 rfl ?_
    refine V_iload_n dL_act_510 rfl rfl ?_
    refine V_if_eq 528 dL_act_511 rfl (fun hc => ?_) (fun hc => ?_)
    · replace h := h.1 hc
      refine V_iload_n dL_act_528 rfl rfl ?_
      refine V_bipush (v := 19) dL_act_529 (by decide) ?_
      refine V_ishr dL_act_531 ?_
      refine V_iconst (v := 4) dL_act_532 (by decide) ?_
      refine V_callSi (st := [.int x5, .int x4, .ref 0]) [.int (a1 >>> (19 &&& 31)), .int 4] dL_act_533 ok_mL_low rfl ml_RL_92 st_mL_low (Nat.le_of_ble_eq_true rfl) (by decide) (by decide) (by decide) (s_mL_low hS h) (fun r68 I9 J9 h => ?_)
      obtain ⟨rfl, rfl, h⟩ := h
      refine V_sub (lo2 := []) [] rfl ?_
      exact hK536 _ _ _ _ h
    · replace h := h.2 hc
      refine V_iload_n dL_act_514 rfl rfl ?_
      refine V_bipush (v := 19) dL_act_515 (by decide) ?_
      refine V_ishr dL_act_517 ?_
      refine V_bipush (v := 6) dL_act_518 (by decide) ?_
      refine V_callSi (st := [.int x5, .int x4, .ref 0]) [.int (a1 >>> (19 &&& 31)), .int 6] dL_act_520 ok_mL_low rfl ml_RL_92 st_mL_low (Nat.le_of_ble_eq_true rfl) (by decide) (by decide) (by decide) (s_mL_low hS h) (fun r69 I9 J9 h => ?_)
      obtain ⟨rfl, rfl, h⟩ := h
      refine V_iconst (v := 1) dL_act_523 (by decide) ?_
      refine V_isub dL_act_524 ?_
      refine V_goto 536 dL_act_525 rfl ?_
      refine V_sub (lo2 := []) [] rfl ?_
      exact hK536 _ _ _ _ h
  by_cases hc18 : r29 = 18
  · replace h := h.2.2.2.2.2.2.2.2.2.2.2.2.2.2.2.2.2.2.1 hc18
    refine V_tableIn 505 dL_act_145 (by rw [hc18]; decide) (by rw [hc18]; decide) (by rw [hc18]; first | done | rfl) rfl ?_
    refine V_aload_n dL_act_505 rfl rfl ?_
    refine V_iload dL_act_506 rfl ?_
    refine V_iload dL_act_508 rfl ?_
    refine V_iload_n dL_act_510 rfl rfl ?_
    refine V_if_eq 528 dL_act_511 rfl (fun hc => ?_) (fun hc => ?_)
    · replace h := h.1 hc
      refine V_iload_n dL_act_528 rfl rfl ?_
      refine V_bipush (v := 19) dL_act_529 (by decide) ?_
      refine V_ishr dL_act_531 ?_
      refine V_iconst (v := 4) dL_act_532 (by decide) ?_
      refine V_callSi (st := [.int x5, .int x4, .ref 0]) [.int (a1 >>> (19 &&& 31)), .int 4] dL_act_533 ok_mL_low rfl ml_RL_92 st_mL_low (Nat.le_of_ble_eq_true rfl) (by decide) (by decide) (by decide) (s_mL_low hS h) (fun r70 I9 J9 h => ?_)
      obtain ⟨rfl, rfl, h⟩ := h
      refine V_sub (lo2 := []) [] rfl ?_
      exact hK536 _ _ _ _ h
    · replace h := h.2 hc
      refine V_iload_n dL_act_514 rfl rfl ?_
      refine V_bipush (v := 19) dL_act_515 (by decide) ?_
      refine V_ishr dL_act_517 ?_
      refine V_bipush (v := 6) dL_act_518 (by decide) ?_
      refine V_callSi (st := [.int x5, .int x4, .ref 0]) [.int (a1 >>> (19 &&& 31)), .int 6] dL_act_520 ok_mL_low rfl ml_RL_92 st_mL_low (Nat.le_of_ble_eq_true rfl) (by decide) (by decide) (by decide) (s_mL_low hS h) (fun r71 I9 J9 h => ?_)
      obtain ⟨rfl, rfl, h⟩ := h
      refine V_iconst (v := 1) dL_act_523 (by decide) ?_
      refine V_isub dL_act_524 ?_
      refine V_goto 536 dL_act_525 rfl ?_
      refine V_sub (lo2 := []) [] rfl ?_
      exact hK536 _ _ _ _ h
  by_cases hc19 : r29 = 19
  · replace h := h.2.2.2.2.2.2.2.2.2.2.2.2.2.2.2.2.2.2.2.1 hc19
    refine V_tableIn 540 dL_act_145 (by rw [hc19]; decide) (by rw [hc19]; decide) (by rw [hc19]; first | done | rfl) rfl ?_
    refine V_aload_n dL_act_540 rfl rfl ?_
    refine V_iload dL_act_541 rfl ?_
    refine V_callSXi (st := []) [.ref 0, .int x4] dL_act_543 ok_mL_rewrite (by decide) ml_RL_118 st_mL_rewrite (Nat.le_of_ble_eq_true rfl) (by decide) (by decide) (by decide) (s_mL_rewrite hS h) (fun r72 I73 J9 h => ?_)
    obtain ⟨rfl, h⟩ := h
    exact V_iret dL_act_546 rfl (by decide) (by decide) ⟨_, rfl, rfl, rfl, h⟩
  by_cases hc20 : r29 = 20
  · replace h := h.2.2.2.2.2.2.2.2.2.2.2.2.2.2.2.2.2.2.2.2.1 hc20
    refine V_tableIn 547 dL_act_145 (by rw [hc20]; decide) (by rw [hc20]; decide) (by rw [hc20]; first | done | rfl) rfl ?_
    refine V_aload_n dL_act_547 rfl rfl ?_
    refine V_iload dL_act_548 rfl ?_
    refine V_callSXi (st := []) [.ref 0, .int x4] dL_act_550 ok_mL_rows (by decide) ml_RL_120 st_mL_rows (Nat.le_of_ble_eq_true rfl) (by decide) (by decide) (by decide) (s_mL_rows hS h) (fun r74 I75 J9 h => ?_)
    obtain ⟨rfl, h⟩ := h
    exact V_iret dL_act_553 rfl (by decide) (by decide) ⟨_, rfl, rfl, rfl, h⟩
  by_cases hc21 : r29 = 21
  · replace h := h.2.2.2.2.2.2.2.2.2.2.2.2.2.2.2.2.2.2.2.2.2.1 hc21
    refine V_tableIn 554 dL_act_145 (by rw [hc21]; decide) (by rw [hc21]; decide) (by rw [hc21]; first | done | rfl) rfl ?_
    refine V_aload_n dL_act_554 rfl rfl ?_
    refine V_iload dL_act_555 rfl ?_
    refine V_iload_n dL_act_557 rfl rfl ?_
    refine V_if_eq 568 dL_act_558 rfl (fun hc => ?_) (fun hc => ?_)
    · replace h := h.1 hc
      refine V_iload_n dL_act_568 rfl rfl ?_
      refine V_bipush (v := 12) dL_act_569 (by decide) ?_
      refine V_ishr dL_act_571 ?_
      refine V_iconst (v := 4) dL_act_572 (by decide) ?_
      refine V_callSi (st := [.int x4, .ref 0]) [.int (a1 >>> (12 &&& 31)), .int 4] dL_act_573 ok_mL_low rfl ml_RL_92 st_mL_low (Nat.le_of_ble_eq_true rfl) (by decide) (by decide) (by decide) (s_mL_low hS h) (fun r76 I9 J9 h => ?_)
      obtain ⟨rfl, rfl, h⟩ := h
      refine V_sub (lo2 := [(6, .int y0)]) [1] rfl ?_
      exact hK576 _ _ _ _ h
    · replace h := h.2 hc
      refine V_iload_n dL_act_561 rfl rfl ?_
      refine V_bipush (v := 12) dL_act_562 (by decide) ?_
      refine V_ishr dL_act_564 ?_
      refine V_goto 576 dL_act_565 rfl ?_
      refine V_sub (lo2 := [(6, .int y0)]) [1] rfl ?_
      exact hK576 _ _ _ _ h
  by_cases hc22 : r29 = 22
  · replace h := h.2.2.2.2.2.2.2.2.2.2.2.2.2.2.2.2.2.2.2.2.2.2.1 hc22
    refine V_tableIn 582 dL_act_145 (by rw [hc22]; decide) (by rw [hc22]; decide) (by rw [hc22]; first | done | rfl) rfl ?_
    refine V_aload_n dL_act_582 rfl rfl ?_
    refine V_iload_n dL_act_583 rfl rfl ?_
    refine V_if_eq 600 dL_act_584 rfl (fun hc => ?_) (fun hc => ?_)
    · replace h := h.1 hc
      refine V_iload dL_act_600 rfl ?_
      refine V_sub (lo2 := [(1, .int a1), (2, .int x2), (5, .int x5)]) [3, 4, 7] rfl ?_
      exact hK602 _ _ _ _ h
    · replace h := h.2 hc
      refine V_iload_n dL_act_587 rfl rfl ?_
      refine V_bipush (v := 8) dL_act_588 (by decide) ?_
      refine V_ishr dL_act_590 ?_
      refine V_iconst (v := 4) dL_act_591 (by decide) ?_
      refine V_callSi (st := [.ref 0]) [.int (a1 >>> (8 &&& 31)), .int 4] dL_act_592 ok_mL_low rfl ml_RL_92 st_mL_low (Nat.le_of_ble_eq_true rfl) (by decide) (by decide) (by decide) (s_mL_low hS h) (fun r77 I9 J9 h => ?_)
      obtain ⟨rfl, rfl, h⟩ := h
      refine V_iconst (v := 1) dL_act_595 (by decide) ?_
      refine V_isub dL_act_596 ?_
      refine V_goto 602 dL_act_597 rfl ?_
      refine V_sub (lo2 := [(1, .int a1), (2, .int x2), (5, .int x5)]) [3, 4, 7] rfl ?_
      exact hK602 _ _ _ _ h
  by_cases hc23 : r29 = 23
  · replace h := h.2.2.2.2.2.2.2.2.2.2.2.2.2.2.2.2.2.2.2.2.2.2.2.1 hc23
    refine V_tableIn 626 dL_act_145 (by rw [hc23]; decide) (by rw [hc23]; decide) (by rw [hc23]; first | done | rfl) rfl ?_
    refine V_aload_n dL_act_626 rfl rfl ?_
    refine V_iload dL_act_627 rfl ?_
    refine V_callSXi (st := []) [.ref 0, .int x4] dL_act_629 ok_mL_steps (by decide) ml_RL_127 st_mL_steps (Nat.le_of_ble_eq_true rfl) (by decide) (by decide) (by decide) (s_mL_steps hS h) (fun r78 I79 J9 h => ?_)
    obtain ⟨rfl, h⟩ := h
    exact V_iret dL_act_632 rfl (by decide) (by decide) ⟨_, rfl, rfl, rfl, h⟩
  by_cases hc24 : r29 = 24
  · replace h := h.2.2.2.2.2.2.2.2.2.2.2.2.2.2.2.2.2.2.2.2.2.2.2.2.1 hc24
    refine V_tableIn 633 dL_act_145 (by rw [hc24]; decide) (by rw [hc24]; decide) (by rw [hc24]; first | done | rfl) rfl ?_
    refine V_iload_n dL_act_633 rfl rfl ?_
    refine V_iconst (v := 5) dL_act_634 (by decide) ?_
    refine V_ishr dL_act_635 ?_
    refine V_iconst (v := 4) dL_act_636 (by decide) ?_
    refine V_callSi (st := []) [.int (a1 >>> (5 &&& 31)), .int 4] dL_act_637 ok_mL_low rfl ml_RL_92 st_mL_low (Nat.le_of_ble_eq_true rfl) (by decide) (by decide) (by decide) (s_mL_low hS h) (fun r80 I9 J9 h => ?_)
    obtain ⟨rfl, rfl, h⟩ := h
    refine V_if_ne 673 dL_act_640 rfl (fun hc => ?_) (fun hc => ?_)
    · replace h := h.1 hc
      refine V_aload_n dL_act_673 rfl rfl ?_
      refine V_ldc dL_act_674 co_RL_131 ?_
      refine V_callSXi (st := []) [.ref 0, .int 100000] dL_act_676 ok_mL_budget (by decide) ml_RL_129 st_mL_budget (Nat.le_of_ble_eq_true rfl) (by decide) (by decide) (by decide) (s_mL_budget hS h) (fun r81 I82 J9 h => ?_)
      obtain ⟨rfl, h⟩ := h
      exact V_iret dL_act_679 rfl (by decide) (by decide) ⟨_, rfl, rfl, rfl, h⟩
    · replace h := h.2 hc
      refine V_aload_n dL_act_643 rfl rfl ?_
      refine V_iload_n dL_act_644 rfl rfl ?_
      refine V_if_eq 655 dL_act_645 rfl (fun hc => ?_) (fun hc => ?_)
      · replace h := h.1 hc
        refine V_iconst (v := 1) dL_act_655 (by decide) ?_
        refine V_iload_n dL_act_656 rfl rfl ?_
        refine V_bipush (v := 8) dL_act_657 (by decide) ?_
        refine V_ishr dL_act_659 ?_
        refine V_sipush (v := 300) dL_act_660 (by decide) ?_
        refine V_callSi (st := [.int 1, .ref 0]) [.int (a1 >>> (8 &&& 31)), .int 300] dL_act_663 ok_mL_low rfl ml_RL_92 st_mL_low (Nat.le_of_ble_eq_true rfl) (by decide) (by decide) (by decide) (s_mL_low hS h) (fun r83 I9 J9 h => ?_)
        obtain ⟨rfl, rfl, h⟩ := h
        refine V_iadd dL_act_666 ?_
        refine V_sub (lo2 := []) [] rfl ?_
        exact hK667 _ _ h
      · replace h := h.2 hc
        refine V_iload_n dL_act_648 rfl rfl ?_
        refine V_bipush (v := 8) dL_act_649 (by decide) ?_
        refine V_ishr dL_act_651 ?_
        refine V_goto 667 dL_act_652 rfl ?_
        refine V_sub (lo2 := []) [] rfl ?_
        exact hK667 _ _ h
  by_cases hc25 : r29 = 25
  · replace h := h.2.2.2.2.2.2.2.2.2.2.2.2.2.2.2.2.2.2.2.2.2.2.2.2.2.1 hc25
    refine V_tableIn 680 dL_act_145 (by rw [hc25]; decide) (by rw [hc25]; decide) (by rw [hc25]; first | done | rfl) rfl ?_
    refine V_aload_n dL_act_680 rfl rfl ?_
    refine V_iload_n dL_act_681 rfl rfl ?_
    refine V_iload dL_act_682 rfl ?_
    refine V_iload_n dL_act_684 rfl rfl ?_
    refine V_bipush (v := 18) dL_act_685 (by decide) ?_
    refine V_ishr dL_act_687 ?_
    refine V_iconst (v := 3) dL_act_688 (by decide) ?_
    refine V_callSi (st := [.int y0, .int x3, .ref 0]) [.int (a1 >>> (18 &&& 31)), .int 3] dL_act_689 ok_mL_low rfl ml_RL_92 st_mL_low (Nat.le_of_ble_eq_true rfl) (by decide) (by decide) (by decide) (s_mL_low hS h) (fun r84 I9 J9 h => ?_)
    obtain ⟨rfl, rfl, h⟩ := h
    refine V_iload_n dL_act_692 rfl rfl ?_
    refine V_bipush (v := 20) dL_act_693 (by decide) ?_
    refine V_ishr dL_act_695 ?_
    refine V_iconst (v := 2) dL_act_696 (by decide) ?_
    refine V_callSi (st := [.int r84, .int y0, .int x3, .ref 0]) [.int (a1 >>> (20 &&& 31)), .int 2] dL_act_697 ok_mL_low rfl ml_RL_92 st_mL_low (Nat.le_of_ble_eq_true rfl) (by decide) (by decide) (by decide) (s_mL_low hS h) (fun r85 I9 J9 h => ?_)
    obtain ⟨rfl, rfl, h⟩ := h
    refine V_callSXi (st := []) [.ref 0, .int x3, .int y0, .int r84, .int r85] dL_act_700 ok_mL_link (by decide) ml_RL_132 st_mL_link (Nat.le_of_ble_eq_true rfl) (by decide) (by decide) (by decide) (s_mL_link hS h) (fun r86 I87 J9 h => ?_)
    obtain ⟨rfl, h⟩ := h
    exact V_iret dL_act_703 rfl (by decide) (by decide) ⟨_, rfl, rfl, rfl, h⟩
  by_cases hc26 : r29 = 26
  · replace h := h.2.2.2.2.2.2.2.2.2.2.2.2.2.2.2.2.2.2.2.2.2.2.2.2.2.2.1 hc26
    refine V_tableIn 704 dL_act_145 (by rw [hc26]; decide) (by rw [hc26]; decide) (by rw [hc26]; first | done | rfl) rfl ?_
    refine V_iload_n dL_act_704 rfl rfl ?_
    refine V_if_eq 718 dL_act_705 rfl (fun hc => ?_) (fun hc => ?_)
    · replace h := h.1 hc
      refine V_aload_n dL_act_718 rfl rfl ?_
      refine V_iconst (v := 1) dL_act_719 (by decide) ?_
      refine V_iload_n dL_act_720 rfl rfl ?_
      refine V_iconst (v := 5) dL_act_721 (by decide) ?_
      refine V_ishr dL_act_722 ?_
      refine V_bipush (v := 7) dL_act_723 (by decide) ?_
      refine V_callSi (st := [.int 1, .ref 0]) [.int (a1 >>> (5 &&& 31)), .int 7] dL_act_725 ok_mL_low rfl ml_RL_92 st_mL_low (Nat.le_of_ble_eq_true rfl) (by decide) (by decide) (by decide) (s_mL_low hS h) (fun r88 I9 J9 h => ?_)
      obtain ⟨rfl, rfl, h⟩ := h
      refine V_iadd dL_act_728 ?_
      refine V_callSXi (st := []) [.ref 0, .int (1 + r88)] dL_act_729 ok_mL_cost (by decide) ml_RL_134 st_mL_cost (Nat.le_of_ble_eq_true rfl) (by decide) (by decide) (by decide) (s_mL_cost hS h) (fun r89 I90 J9 h => ?_)
      obtain ⟨rfl, h⟩ := h
      exact V_iret dL_act_732 rfl (by decide) (by decide) ⟨_, rfl, rfl, rfl, h⟩
    · replace h := h.2 hc
      refine V_aload_n dL_act_708 rfl rfl ?_
      refine V_iload_n dL_act_709 rfl rfl ?_
      refine V_iconst (v := 5) dL_act_710 (by decide) ?_
      refine V_ishr dL_act_711 ?_
      refine V_callSXi (st := []) [.ref 0, .int (a1 >>> (5 &&& 31))] dL_act_712 ok_mL_cost (by decide) ml_RL_134 st_mL_cost (Nat.le_of_ble_eq_true rfl) (by decide) (by decide) (by decide) (s_mL_cost hS h) (fun r91 I92 J9 h => ?_)
      obtain ⟨rfl, h⟩ := h
      refine V_goto 732 dL_act_715 rfl ?_
      exact V_iret dL_act_732 rfl (by decide) (by decide) ⟨_, rfl, rfl, rfl, h⟩
  by_cases hc27 : r29 = 27
  · replace h := h.2.2.2.2.2.2.2.2.2.2.2.2.2.2.2.2.2.2.2.2.2.2.2.2.2.2.2.1 hc27
    refine V_tableIn 733 dL_act_145 (by rw [hc27]; decide) (by rw [hc27]; decide) (by rw [hc27]; first | done | rfl) rfl ?_
    refine V_aload_n dL_act_733 rfl rfl ?_
    refine V_iload_n dL_act_734 rfl rfl ?_
    refine V_iload_n dL_act_735 rfl rfl ?_
    refine V_bipush (v := 8) dL_act_736 (by decide) ?_
    refine V_ishr dL_act_738 ?_
    refine V_iconst (v := 3) dL_act_739 (by decide) ?_
    refine V_callSi (st := [.int x3, .ref 0]) [.int (a1 >>> (8 &&& 31)), .int 3] dL_act_740 ok_mL_low rfl ml_RL_92 st_mL_low (Nat.le_of_ble_eq_true rfl) (by decide) (by decide) (by decide) (s_mL_low hS h) (fun r93 I9 J9 h => ?_)
    obtain ⟨rfl, rfl, h⟩ := h
    refine V_iload dL_act_743 rfl ?_
    refine V_iload dL_act_745 rfl ?_
    refine V_callSXi (st := []) [.ref 0, .int x3, .int r93, .int y0, .int r28] dL_act_747 ok_mL_view (by decide) ml_RL_136 st_mL_view (Nat.le_of_ble_eq_true rfl) (by decide) (by decide) (by decide) (s_mL_view hS h) (fun r94 I95 J9 h => ?_)
    obtain ⟨rfl, h⟩ := h
    exact V_iret dL_act_750 rfl (by decide) (by decide) ⟨_, rfl, rfl, rfl, h⟩
  by_cases hc28 : r29 = 28
  · replace h := h.2.2.2.2.2.2.2.2.2.2.2.2.2.2.2.2.2.2.2.2.2.2.2.2.2.2.2.2.1 hc28
    refine V_tableIn 751 dL_act_145 (by rw [hc28]; decide) (by rw [hc28]; decide) (by rw [hc28]; first | done | rfl) rfl ?_
    refine V_aload_n dL_act_751 rfl rfl ?_
    refine V_iload_n dL_act_752 rfl rfl ?_
    refine V_iconst (v := 5) dL_act_753 (by decide) ?_
    refine V_ishr dL_act_754 ?_
    refine V_iconst (v := 2) dL_act_755 (by decide) ?_
    refine V_callSi (st := [.ref 0]) [.int (a1 >>> (5 &&& 31)), .int 2] dL_act_756 ok_mL_low rfl ml_RL_92 st_mL_low (Nat.le_of_ble_eq_true rfl) (by decide) (by decide) (by decide) (s_mL_low hS h) (fun r96 I9 J9 h => ?_)
    obtain ⟨rfl, rfl, h⟩ := h
    refine V_iload_n dL_act_759 rfl rfl ?_
    refine V_if_eq 770 dL_act_760 rfl (fun hc => ?_) (fun hc => ?_)
    · replace h := h.1 hc
      refine V_iload_n dL_act_770 rfl rfl ?_
      refine V_bipush (v := 8) dL_act_771 (by decide) ?_
      refine V_ishr dL_act_773 ?_
      refine V_iconst (v := 2) dL_act_774 (by decide) ?_
      refine V_callSi (st := [.int r96, .ref 0]) [.int (a1 >>> (8 &&& 31)), .int 2] dL_act_775 ok_mL_low rfl ml_RL_92 st_mL_low (Nat.le_of_ble_eq_true rfl) (by decide) (by decide) (by decide) (s_mL_low hS h) (fun r97 I9 J9 h => ?_)
      obtain ⟨rfl, rfl, h⟩ := h
      refine V_sub (lo2 := [(1, .int a1)]) [3] rfl ?_
      exact hK778 _ _ _ h
    · replace h := h.2 hc
      refine V_iload_n dL_act_763 rfl rfl ?_
      refine V_bipush (v := 8) dL_act_764 (by decide) ?_
      refine V_ishr dL_act_766 ?_
      refine V_goto 778 dL_act_767 rfl ?_
      refine V_sub (lo2 := [(1, .int a1)]) [3] rfl ?_
      exact hK778 _ _ _ h
  replace h := h.2.2.2.2.2.2.2.2.2.2.2.2.2.2.2.2.2.2.2.2.2.2.2.2.2.2.2.2.2 hc0 hc1 hc2 hc3 hc4 hc5 hc6 hc7 hc8 hc9 hc10 hc11 hc12 hc13 hc14 hc15 hc16 hc17 hc18 hc19 hc20 hc21 hc22 hc23 hc24 hc25 hc26 hc27 hc28
  have n0 := q_tsw (c := 0) hc0 (by decide) (by decide)
  have n1 := q_tsw (c := 1) hc1 (by decide) (by decide)
  have n2 := q_tsw (c := 2) hc2 (by decide) (by decide)
  have n3 := q_tsw (c := 3) hc3 (by decide) (by decide)
  have n4 := q_tsw (c := 4) hc4 (by decide) (by decide)
  have n5 := q_tsw (c := 5) hc5 (by decide) (by decide)
  have n6 := q_tsw (c := 6) hc6 (by decide) (by decide)
  have n7 := q_tsw (c := 7) hc7 (by decide) (by decide)
  have n8 := q_tsw (c := 8) hc8 (by decide) (by decide)
  have n9 := q_tsw (c := 9) hc9 (by decide) (by decide)
  have n10 := q_tsw (c := 10) hc10 (by decide) (by decide)
  have n11 := q_tsw (c := 11) hc11 (by decide) (by decide)
  have n12 := q_tsw (c := 12) hc12 (by decide) (by decide)
  have n13 := q_tsw (c := 13) hc13 (by decide) (by decide)
  have n14 := q_tsw (c := 14) hc14 (by decide) (by decide)
  have n15 := q_tsw (c := 15) hc15 (by decide) (by decide)
  have n16 := q_tsw (c := 16) hc16 (by decide) (by decide)
  have n17 := q_tsw (c := 17) hc17 (by decide) (by decide)
  have n18 := q_tsw (c := 18) hc18 (by decide) (by decide)
  have n19 := q_tsw (c := 19) hc19 (by decide) (by decide)
  have n20 := q_tsw (c := 20) hc20 (by decide) (by decide)
  have n21 := q_tsw (c := 21) hc21 (by decide) (by decide)
  have n22 := q_tsw (c := 22) hc22 (by decide) (by decide)
  have n23 := q_tsw (c := 23) hc23 (by decide) (by decide)
  have n24 := q_tsw (c := 24) hc24 (by decide) (by decide)
  have n25 := q_tsw (c := 25) hc25 (by decide) (by decide)
  have n26 := q_tsw (c := 26) hc26 (by decide) (by decide)
  have n27 := q_tsw (c := 27) hc27 (by decide) (by decide)
  have n28 := q_tsw (c := 28) hc28 (by decide) (by decide)
  refine V_tableOut 790 dL_act_145 (by omega) rfl ?_
  refine V_aload_n dL_act_790 rfl rfl ?_
  refine V_iload_n dL_act_791 rfl rfl ?_
  refine V_callSXi (st := []) [.ref 0, .int x3] dL_act_792 ok_mL_ways (by decide) ml_RL_140 st_mL_ways (Nat.le_of_ble_eq_true rfl) (by decide) (by decide) (by decide) (s_mL_ways hS h) (fun r98 I99 J9 h => ?_)
  obtain ⟨rfl, h⟩ := h
  exact V_iret dL_act_795 rfl (by decide) (by decide) ⟨_, rfl, rfl, rfl, h⟩
def wL_act_296 (a1 : Int32) (post : Int32 → QI → Prop) (y0 : Int32) (I : QI) : Prop := (wL_table y0 I (fun r102 I103 => post r102 I103))
set_option maxRecDepth 100000 in
set_option maxHeartbeats 4000000 in
theorem swL_act_296 {X : QX} {S : QS} {a1 : Int32} {J : QJ} {post : Int32 → QI → Prop} (hS : Sh S) : ∀ (y0 : Int32) (I : QI), wL_act_296 a1 post y0 I → V X mL_act 66 1 6 (q_Pi S (fun r I2 J2 => J = J2 ∧ post r I2)) 296 [] [.int y0, .ref 0] S I J 0 0 := by
  intro y0 I h
  replace h : (wL_table y0 I (fun r102 I103 => post r102 I103)) := h
  refine V_callSXi (st := []) [.ref 0, .int y0] dL_act_296 ok_mL_table (by decide) ml_RL_97 st_mL_table (Nat.le_of_ble_eq_true rfl) (by decide) (by decide) (by decide) (s_mL_table hS h) (fun r102 I103 J9 h => ?_)
  obtain ⟨rfl, h⟩ := h
  exact V_iret dL_act_299 rfl (by decide) (by decide) ⟨_, rfl, rfl, rfl, h⟩
def wL_act_347 (a1 : Int32) (K370 : Int32 → Int32 → Int32 → Int32 → QI → Prop) (post : Int32 → QI → Prop) (y0 : Int32) (y1 : Int32) (y2 : Int32) (I : QI) : Prop := (wL_low (a1 >>> (16 &&& 31)) 3 I (fun r108 => ((¬ r108 = 0 → (K370 0 y0 y1 y2 I)) ∧ (r108 = 0 → (wL_low (a1 >>> (18 &&& 31)) 3 I (fun r109 => (K370 r109 y0 y1 y2 I)))))))
set_option maxRecDepth 100000 in
set_option maxHeartbeats 4000000 in
theorem swL_act_347 {X : QX} {S : QS} {a1 : Int32} {J : QJ} {K370 : Int32 → Int32 → Int32 → Int32 → QI → Prop} {post : Int32 → QI → Prop} (hS : Sh S) (hK370 : ∀ (w0 : Int32) (w1 : Int32) (w2 : Int32) (w3 : Int32) (I : QI), K370 w0 w1 w2 w3 I → V X mL_act 66 1 6 (q_Pi S (fun r I2 J2 => J = J2 ∧ post r I2)) 370 [] [.int w0, .int w1, .int w2, .int w3, .ref 0] S I J 0 0) : ∀ (y0 : Int32) (y1 : Int32) (y2 : Int32) (I : QI), wL_act_347 a1 K370 post y0 y1 y2 I → V X mL_act 66 1 6 (q_Pi S (fun r I2 J2 => J = J2 ∧ post r I2)) 347 [(1, .int a1)] [.int y0, .int y1, .int y2, .ref 0] S I J 0 0 := by
  intro y0 y1 y2 I h
  replace h : (wL_low (a1 >>> (16 &&& 31)) 3 I (fun r108 => ((¬ r108 = 0 → (K370 0 y0 y1 y2 I)) ∧ (r108 = 0 → (wL_low (a1 >>> (18 &&& 31)) 3 I (fun r109 => (K370 r109 y0 y1 y2 I))))))) := h
  refine V_iload_n dL_act_347 rfl rfl ?_
  refine V_bipush (v := 16) dL_act_348 (by decide) ?_
  refine V_ishr dL_act_350 ?_
  refine V_iconst (v := 3) dL_act_351 (by decide) ?_
  refine V_callSi (st := [.int y0, .int y1, .int y2, .ref 0]) [.int (a1 >>> (16 &&& 31)), .int 3] dL_act_352 ok_mL_low rfl ml_RL_92 st_mL_low (Nat.le_of_ble_eq_true rfl) (by decide) (by decide) (by decide) (s_mL_low hS h) (fun r108 I9 J9 h => ?_)
  obtain ⟨rfl, rfl, h⟩ := h
  refine V_if_ne 369 dL_act_355 rfl (fun hc => ?_) (fun hc => ?_)
  · replace h := h.1 hc
    refine V_iconst (v := 0) dL_act_369 (by decide) ?_
    refine V_sub (lo2 := []) [] rfl ?_
    exact hK370 _ _ _ _ _ h
  · replace h := h.2 hc
    refine V_iload_n dL_act_358 rfl rfl ?_
    refine V_bipush (v := 18) dL_act_359 (by decide) ?_
    refine V_ishr dL_act_361 ?_
    refine V_iconst (v := 3) dL_act_362 (by decide) ?_
    refine V_callSi (st := [.int y0, .int y1, .int y2, .ref 0]) [.int (a1 >>> (18 &&& 31)), .int 3] dL_act_363 ok_mL_low rfl ml_RL_92 st_mL_low (Nat.le_of_ble_eq_true rfl) (by decide) (by decide) (by decide) (s_mL_low hS h) (fun r109 I9 J9 h => ?_)
    obtain ⟨rfl, rfl, h⟩ := h
    refine V_goto 370 dL_act_366 rfl ?_
    refine V_sub (lo2 := []) [] rfl ?_
    exact hK370 _ _ _ _ _ h
def wL_act_370 (a1 : Int32) (post : Int32 → QI → Prop) (y0 : Int32) (y1 : Int32) (y2 : Int32) (y3 : Int32) (I : QI) : Prop := (wL_add y3 y2 y1 y0 I (fun r115 I116 => post r115 I116))
set_option maxRecDepth 100000 in
set_option maxHeartbeats 4000000 in
theorem swL_act_370 {X : QX} {S : QS} {a1 : Int32} {J : QJ} {post : Int32 → QI → Prop} (hS : Sh S) : ∀ (y0 : Int32) (y1 : Int32) (y2 : Int32) (y3 : Int32) (I : QI), wL_act_370 a1 post y0 y1 y2 y3 I → V X mL_act 66 1 6 (q_Pi S (fun r I2 J2 => J = J2 ∧ post r I2)) 370 [] [.int y0, .int y1, .int y2, .int y3, .ref 0] S I J 0 0 := by
  intro y0 y1 y2 y3 I h
  replace h : (wL_add y3 y2 y1 y0 I (fun r115 I116 => post r115 I116)) := h
  refine V_callSXi (st := []) [.ref 0, .int y3, .int y2, .int y1, .int y0] dL_act_370 ok_mL_add (by decide) ml_RL_100 st_mL_add (Nat.le_of_ble_eq_true rfl) (by decide) (by decide) (by decide) (s_mL_add hS h) (fun r115 I116 J9 h => ?_)
  obtain ⟨rfl, h⟩ := h
  exact V_iret dL_act_373 rfl (by decide) (by decide) ⟨_, rfl, rfl, rfl, h⟩
def wL_act_388 (a1 : Int32) (post : Int32 → QI → Prop) (y0 : Int32) (y1 : Int32) (I : QI) : Prop := (wL_take y1 y0 I (fun r120 I121 => post r120 I121))
set_option maxRecDepth 100000 in
set_option maxHeartbeats 4000000 in
theorem swL_act_388 {X : QX} {S : QS} {a1 : Int32} {J : QJ} {post : Int32 → QI → Prop} (hS : Sh S) : ∀ (y0 : Int32) (y1 : Int32) (I : QI), wL_act_388 a1 post y0 y1 I → V X mL_act 66 1 6 (q_Pi S (fun r I2 J2 => J = J2 ∧ post r I2)) 388 [] [.int y0, .int y1, .ref 0] S I J 0 0 := by
  intro y0 y1 I h
  replace h : (wL_take y1 y0 I (fun r120 I121 => post r120 I121)) := h
  refine V_callSXi (st := []) [.ref 0, .int y1, .int y0] dL_act_388 ok_mL_take (by decide) ml_RL_103 st_mL_take (Nat.le_of_ble_eq_true rfl) (by decide) (by decide) (by decide) (s_mL_take hS h) (fun r120 I121 J9 h => ?_)
  obtain ⟨rfl, h⟩ := h
  exact V_iret dL_act_391 rfl (by decide) (by decide) ⟨_, rfl, rfl, rfl, h⟩
def wL_act_429 (a1 : Int32) (post : Int32 → QI → Prop) (y0 : Int32) (y1 : Int32) (y2 : Int32) (I : QI) : Prop := (wL_low (a1 >>> (21 &&& 31)) 3 I (fun r126 => (wL_filter y2 y1 y0 r126 I (fun r127 I128 => post r127 I128))))
set_option maxRecDepth 100000 in
set_option maxHeartbeats 4000000 in
theorem swL_act_429 {X : QX} {S : QS} {a1 : Int32} {J : QJ} {post : Int32 → QI → Prop} (hS : Sh S) : ∀ (y0 : Int32) (y1 : Int32) (y2 : Int32) (I : QI), wL_act_429 a1 post y0 y1 y2 I → V X mL_act 66 1 6 (q_Pi S (fun r I2 J2 => J = J2 ∧ post r I2)) 429 [(1, .int a1)] [.int y0, .int y1, .int y2, .ref 0] S I J 0 0 := by
  intro y0 y1 y2 I h
  replace h : (wL_low (a1 >>> (21 &&& 31)) 3 I (fun r126 => (wL_filter y2 y1 y0 r126 I (fun r127 I128 => post r127 I128)))) := h
  refine V_iload_n dL_act_429 rfl rfl ?_
  refine V_bipush (v := 21) dL_act_430 (by decide) ?_
  refine V_ishr dL_act_432 ?_
  refine V_iconst (v := 3) dL_act_433 (by decide) ?_
  refine V_callSi (st := [.int y0, .int y1, .int y2, .ref 0]) [.int (a1 >>> (21 &&& 31)), .int 3] dL_act_434 ok_mL_low rfl ml_RL_92 st_mL_low (Nat.le_of_ble_eq_true rfl) (by decide) (by decide) (by decide) (s_mL_low hS h) (fun r126 I9 J9 h => ?_)
  obtain ⟨rfl, rfl, h⟩ := h
  refine V_callSXi (st := []) [.ref 0, .int y2, .int y1, .int y0, .int r126] dL_act_437 ok_mL_filter (by decide) ml_RL_108 st_mL_filter (Nat.le_of_ble_eq_true rfl) (by decide) (by decide) (by decide) (s_mL_filter hS h) (fun r127 I128 J9 h => ?_)
  obtain ⟨rfl, h⟩ := h
  exact V_iret dL_act_440 rfl (by decide) (by decide) ⟨_, rfl, rfl, rfl, h⟩
def wL_act_476 (a1 : Int32) (post : Int32 → QI → Prop) (y0 : Int32) (y1 : Int32) (y2 : Int32) (y3 : Int32) (y4 : Int32) (I : QI) : Prop := (wL_join y4 y3 y2 y1 y0 I (fun r135 I136 => post r135 I136))
set_option maxRecDepth 100000 in
set_option maxHeartbeats 4000000 in
theorem swL_act_476 {X : QX} {S : QS} {a1 : Int32} {J : QJ} {post : Int32 → QI → Prop} (hS : Sh S) : ∀ (y0 : Int32) (y1 : Int32) (y2 : Int32) (y3 : Int32) (y4 : Int32) (I : QI), wL_act_476 a1 post y0 y1 y2 y3 y4 I → V X mL_act 66 1 6 (q_Pi S (fun r I2 J2 => J = J2 ∧ post r I2)) 476 [] [.int y0, .int y1, .int y2, .int y3, .int y4, .ref 0] S I J 0 0 := by
  intro y0 y1 y2 y3 y4 I h
  replace h : (wL_join y4 y3 y2 y1 y0 I (fun r135 I136 => post r135 I136)) := h
  refine V_callSXi (st := []) [.ref 0, .int y4, .int y3, .int y2, .int y1, .int y0] dL_act_476 ok_mL_join (by decide) ml_RL_110 st_mL_join (Nat.le_of_ble_eq_true rfl) (by decide) (by decide) (by decide) (s_mL_join hS h) (fun r135 I136 J9 h => ?_)
  obtain ⟨rfl, h⟩ := h
  exact V_iret dL_act_479 rfl (by decide) (by decide) ⟨_, rfl, rfl, rfl, h⟩
def wL_act_536 (a1 : Int32) (post : Int32 → QI → Prop) (y0 : Int32) (y1 : Int32) (y2 : Int32) (I : QI) : Prop := (wL_bag y2 y1 y0 I (fun r141 I142 => post r141 I142))
set_option maxRecDepth 100000 in
set_option maxHeartbeats 4000000 in
theorem swL_act_536 {X : QX} {S : QS} {a1 : Int32} {J : QJ} {post : Int32 → QI → Prop} (hS : Sh S) : ∀ (y0 : Int32) (y1 : Int32) (y2 : Int32) (I : QI), wL_act_536 a1 post y0 y1 y2 I → V X mL_act 66 1 6 (q_Pi S (fun r I2 J2 => J = J2 ∧ post r I2)) 536 [] [.int y0, .int y1, .int y2, .ref 0] S I J 0 0 := by
  intro y0 y1 y2 I h
  replace h : (wL_bag y2 y1 y0 I (fun r141 I142 => post r141 I142)) := h
  refine V_callSXi (st := []) [.ref 0, .int y2, .int y1, .int y0] dL_act_536 ok_mL_bag (by decide) ml_RL_115 st_mL_bag (Nat.le_of_ble_eq_true rfl) (by decide) (by decide) (by decide) (s_mL_bag hS h) (fun r141 I142 J9 h => ?_)
  obtain ⟨rfl, h⟩ := h
  exact V_iret dL_act_539 rfl (by decide) (by decide) ⟨_, rfl, rfl, rfl, h⟩
def wL_act_576 (a1 : Int32) (post : Int32 → QI → Prop) (x6 : Int32) (y0 : Int32) (y1 : Int32) (I : QI) : Prop := (wL_value y1 y0 x6 I (fun r147 I148 => post r147 I148))
set_option maxRecDepth 100000 in
set_option maxHeartbeats 4000000 in
theorem swL_act_576 {X : QX} {S : QS} {a1 : Int32} {J : QJ} {post : Int32 → QI → Prop} (hS : Sh S) : ∀ (x6 : Int32) (y0 : Int32) (y1 : Int32) (I : QI), wL_act_576 a1 post x6 y0 y1 I → V X mL_act 66 1 6 (q_Pi S (fun r I2 J2 => J = J2 ∧ post r I2)) 576 [(6, .int x6)] [.int y0, .int y1, .ref 0] S I J 0 0 := by
  intro x6 y0 y1 I h
  replace h : (wL_value y1 y0 x6 I (fun r147 I148 => post r147 I148)) := h
  refine V_iload dL_act_576 rfl ?_
  refine V_callSXi (st := []) [.ref 0, .int y1, .int y0, .int x6] dL_act_578 ok_mL_value (by decide) ml_RL_122 st_mL_value (Nat.le_of_ble_eq_true rfl) (by decide) (by decide) (by decide) (s_mL_value hS h) (fun r147 I148 J9 h => ?_)
  obtain ⟨rfl, h⟩ := h
  exact V_iret dL_act_581 rfl (by decide) (by decide) ⟨_, rfl, rfl, rfl, h⟩
def wL_act_602 (a1 : Int32) (K622 : Int32 → Int32 → QI → Prop) (post : Int32 → QI → Prop) (x2 : Int32) (x5 : Int32) (y0 : Int32) (I : QI) : Prop := ((x2 = 0 → (K622 x5 y0 I)) ∧ (¬ x2 = 0 → (wL_low (a1 >>> (12 &&& 31)) 12 I (fun r153 => (K622 (r153 - 1) y0 I)))))
set_option maxRecDepth 100000 in
set_option maxHeartbeats 4000000 in
theorem swL_act_602 {X : QX} {S : QS} {a1 : Int32} {J : QJ} {K622 : Int32 → Int32 → QI → Prop} {post : Int32 → QI → Prop} (hS : Sh S) (hK622 : ∀ (w0 : Int32) (w1 : Int32) (I : QI), K622 w0 w1 I → V X mL_act 66 1 6 (q_Pi S (fun r I2 J2 => J = J2 ∧ post r I2)) 622 [] [.int w0, .int w1, .ref 0] S I J 0 0) : ∀ (x2 : Int32) (x5 : Int32) (y0 : Int32) (I : QI), wL_act_602 a1 K622 post x2 x5 y0 I → V X mL_act 66 1 6 (q_Pi S (fun r I2 J2 => J = J2 ∧ post r I2)) 602 [(1, .int a1), (2, .int x2), (5, .int x5)] [.int y0, .ref 0] S I J 0 0 := by
  intro x2 x5 y0 I h
  replace h : ((x2 = 0 → (K622 x5 y0 I)) ∧ (¬ x2 = 0 → (wL_low (a1 >>> (12 &&& 31)) 12 I (fun r153 => (K622 (r153 - 1) y0 I))))) := h
  refine V_iload_n dL_act_602 rfl rfl ?_
  refine V_if_eq 620 dL_act_603 rfl (fun hc => ?_) (fun hc => ?_)
  · replace h := h.1 hc
    refine V_iload dL_act_620 rfl ?_
    refine V_sub (lo2 := []) [] rfl ?_
    exact hK622 _ _ _ h
  · replace h := h.2 hc
    refine V_iload_n dL_act_606 rfl rfl ?_
    refine V_bipush (v := 12) dL_act_607 (by decide) ?_
    refine V_ishr dL_act_609 ?_
    refine V_bipush (v := 12) dL_act_610 (by decide) ?_
    refine V_callSi (st := [.int y0, .ref 0]) [.int (a1 >>> (12 &&& 31)), .int 12] dL_act_612 ok_mL_low rfl ml_RL_92 st_mL_low (Nat.le_of_ble_eq_true rfl) (by decide) (by decide) (by decide) (s_mL_low hS h) (fun r153 I9 J9 h => ?_)
    obtain ⟨rfl, rfl, h⟩ := h
    refine V_iconst (v := 1) dL_act_615 (by decide) ?_
    refine V_isub dL_act_616 ?_
    refine V_goto 622 dL_act_617 rfl ?_
    refine V_sub (lo2 := []) [] rfl ?_
    exact hK622 _ _ _ h
def wL_act_622 (a1 : Int32) (post : Int32 → QI → Prop) (y0 : Int32) (y1 : Int32) (I : QI) : Prop := (wL_same y1 y0 I (fun r157 I158 => post r157 I158))
set_option maxRecDepth 100000 in
set_option maxHeartbeats 4000000 in
theorem swL_act_622 {X : QX} {S : QS} {a1 : Int32} {J : QJ} {post : Int32 → QI → Prop} (hS : Sh S) : ∀ (y0 : Int32) (y1 : Int32) (I : QI), wL_act_622 a1 post y0 y1 I → V X mL_act 66 1 6 (q_Pi S (fun r I2 J2 => J = J2 ∧ post r I2)) 622 [] [.int y0, .int y1, .ref 0] S I J 0 0 := by
  intro y0 y1 I h
  replace h : (wL_same y1 y0 I (fun r157 I158 => post r157 I158)) := h
  refine V_callSXi (st := []) [.ref 0, .int y1, .int y0] dL_act_622 ok_mL_same (by decide) ml_RL_125 st_mL_same (Nat.le_of_ble_eq_true rfl) (by decide) (by decide) (by decide) (s_mL_same hS h) (fun r157 I158 J9 h => ?_)
  obtain ⟨rfl, h⟩ := h
  exact V_iret dL_act_625 rfl (by decide) (by decide) ⟨_, rfl, rfl, rfl, h⟩
def wL_act_667 (a1 : Int32) (post : Int32 → QI → Prop) (y0 : Int32) (I : QI) : Prop := (wL_budget y0 I (fun r161 I162 => post r161 I162))
set_option maxRecDepth 100000 in
set_option maxHeartbeats 4000000 in
theorem swL_act_667 {X : QX} {S : QS} {a1 : Int32} {J : QJ} {post : Int32 → QI → Prop} (hS : Sh S) : ∀ (y0 : Int32) (I : QI), wL_act_667 a1 post y0 I → V X mL_act 66 1 6 (q_Pi S (fun r I2 J2 => J = J2 ∧ post r I2)) 667 [] [.int y0, .ref 0] S I J 0 0 := by
  intro y0 I h
  replace h : (wL_budget y0 I (fun r161 I162 => post r161 I162)) := h
  refine V_callSXi (st := []) [.ref 0, .int y0] dL_act_667 ok_mL_budget (by decide) ml_RL_129 st_mL_budget (Nat.le_of_ble_eq_true rfl) (by decide) (by decide) (by decide) (s_mL_budget hS h) (fun r161 I162 J9 h => ?_)
  obtain ⟨rfl, h⟩ := h
  refine V_goto 679 dL_act_670 rfl ?_
  exact V_iret dL_act_679 rfl (by decide) (by decide) ⟨_, rfl, rfl, rfl, h⟩
def wL_act_778 (a1 : Int32) (post : Int32 → QI → Prop) (y0 : Int32) (y1 : Int32) (I : QI) : Prop := (wL_low (a1 >>> (10 &&& 31)) 2 I (fun r166 => (wL_often y1 y0 r166 I (fun r167 => post r167 I))))
set_option maxRecDepth 100000 in
set_option maxHeartbeats 4000000 in
theorem swL_act_778 {X : QX} {S : QS} {a1 : Int32} {J : QJ} {post : Int32 → QI → Prop} (hS : Sh S) : ∀ (y0 : Int32) (y1 : Int32) (I : QI), wL_act_778 a1 post y0 y1 I → V X mL_act 66 1 6 (q_Pi S (fun r I2 J2 => J = J2 ∧ post r I2)) 778 [(1, .int a1)] [.int y0, .int y1, .ref 0] S I J 0 0 := by
  intro y0 y1 I h
  replace h : (wL_low (a1 >>> (10 &&& 31)) 2 I (fun r166 => (wL_often y1 y0 r166 I (fun r167 => post r167 I)))) := h
  refine V_iload_n dL_act_778 rfl rfl ?_
  refine V_bipush (v := 10) dL_act_779 (by decide) ?_
  refine V_ishr dL_act_781 ?_
  refine V_iconst (v := 2) dL_act_782 (by decide) ?_
  refine V_callSi (st := [.int y0, .int y1, .ref 0]) [.int (a1 >>> (10 &&& 31)), .int 2] dL_act_783 ok_mL_low rfl ml_RL_92 st_mL_low (Nat.le_of_ble_eq_true rfl) (by decide) (by decide) (by decide) (s_mL_low hS h) (fun r166 I9 J9 h => ?_)
  obtain ⟨rfl, rfl, h⟩ := h
  refine V_callSXi (st := []) [.ref 0, .int y1, .int y0, .int r166] dL_act_786 ok_mL_often (by decide) ml_RL_138 st_mL_often (Nat.le_of_ble_eq_true rfl) (by decide) (by decide) (by decide) (s_mL_often hS h) (fun r167 I9 J9 h => ?_)
  obtain ⟨rfl, rfl, h⟩ := h
  exact V_iret dL_act_789 rfl (by decide) (by decide) ⟨_, rfl, rfl, rfl, h⟩
def wL_act (a1 : Int32) (I : QI) (post : Int32 → QI → Prop) : Prop := (wL_low (a1 >>> (26 &&& 31)) 14 I (fun r1 => ((¬ r1 = 0 → (wL_act_17 a1 (fun u4 u5 I6 => (wL_act_42 a1 (fun u9 u10 u11 I12 => (wL_act_70 a1 (fun u15 u16 u17 u18 I19 => (wL_act_99 a1 (fun u22 u23 u24 u25 u26 I27 => (wL_act_127 a1 (fun u100 I101 => (wL_act_296 a1 post u100 I101)) (fun u104 u105 u106 I107 => (wL_act_347 a1 (fun u110 u111 u112 u113 I114 => (wL_act_370 a1 post u110 u111 u112 u113 I114)) post u104 u105 u106 I107)) (fun u117 u118 I119 => (wL_act_388 a1 post u117 u118 I119)) (fun u122 u123 u124 I125 => (wL_act_429 a1 post u122 u123 u124 I125)) (fun u129 u130 u131 u132 u133 I134 => (wL_act_476 a1 post u129 u130 u131 u132 u133 I134)) (fun u137 u138 u139 I140 => (wL_act_536 a1 post u137 u138 u139 I140)) (fun u143 u144 u145 I146 => (wL_act_576 a1 post u143 u144 u145 I146)) (fun u149 u150 u151 I152 => (wL_act_602 a1 (fun u154 u155 I156 => (wL_act_622 a1 post u154 u155 I156)) post u149 u150 u151 I152)) (fun u159 I160 => (wL_act_667 a1 post u159 I160)) (fun u163 u164 I165 => (wL_act_778 a1 post u163 u164 I165)) post u22 u23 u24 u25 u26 I27)) post u15 u16 u17 u18 I19)) post u9 u10 u11 I12)) post u4 u5 I6)) post 0 I)) ∧ (r1 = 0 → (wL_act_17 a1 (fun u168 u169 I170 => (wL_act_42 a1 (fun u171 u172 u173 I174 => (wL_act_70 a1 (fun u175 u176 u177 u178 I179 => (wL_act_99 a1 (fun u180 u181 u182 u183 u184 I185 => (wL_act_127 a1 (fun u186 I187 => (wL_act_296 a1 post u186 I187)) (fun u188 u189 u190 I191 => (wL_act_347 a1 (fun u192 u193 u194 u195 I196 => (wL_act_370 a1 post u192 u193 u194 u195 I196)) post u188 u189 u190 I191)) (fun u197 u198 I199 => (wL_act_388 a1 post u197 u198 I199)) (fun u200 u201 u202 I203 => (wL_act_429 a1 post u200 u201 u202 I203)) (fun u204 u205 u206 u207 u208 I209 => (wL_act_476 a1 post u204 u205 u206 u207 u208 I209)) (fun u210 u211 u212 I213 => (wL_act_536 a1 post u210 u211 u212 I213)) (fun u214 u215 u216 I217 => (wL_act_576 a1 post u214 u215 u216 I217)) (fun u218 u219 u220 I221 => (wL_act_602 a1 (fun u222 u223 I224 => (wL_act_622 a1 post u222 u223 I224)) post u218 u219 u220 I221)) (fun u225 I226 => (wL_act_667 a1 post u225 I226)) (fun u227 u228 I229 => (wL_act_778 a1 post u227 u228 I229)) post u180 u181 u182 u183 u184 I185)) post u175 u176 u177 u178 I179)) post u171 u172 u173 I174)) post u168 u169 I170)) post 1 I)))))
set_option maxRecDepth 100000 in
set_option maxHeartbeats 4000000 in
theorem s_mL_act {X : QX} {S : QS} {a1 : Int32} {I : QI} {J : QJ} {post : Int32 → QI → Prop} (hS : Sh S) (h : wL_act a1 I post) : CX X mL_act 66 1 6 [.ref 0, .int a1] S I J (q_Pi S (fun r I2 J2 => J = J2 ∧ post r I2)) := by
  refine CX.of (lo := [(0, .ref 0), (1, .int a1)]) ok_mL_act rfl (Nat.le_of_ble_eq_true rfl) rfl ?_
  replace h : (wL_low (a1 >>> (26 &&& 31)) 14 I (fun r1 => ((¬ r1 = 0 → (wL_act_17 a1 (fun u4 u5 I6 => (wL_act_42 a1 (fun u9 u10 u11 I12 => (wL_act_70 a1 (fun u15 u16 u17 u18 I19 => (wL_act_99 a1 (fun u22 u23 u24 u25 u26 I27 => (wL_act_127 a1 (fun u100 I101 => (wL_act_296 a1 post u100 I101)) (fun u104 u105 u106 I107 => (wL_act_347 a1 (fun u110 u111 u112 u113 I114 => (wL_act_370 a1 post u110 u111 u112 u113 I114)) post u104 u105 u106 I107)) (fun u117 u118 I119 => (wL_act_388 a1 post u117 u118 I119)) (fun u122 u123 u124 I125 => (wL_act_429 a1 post u122 u123 u124 I125)) (fun u129 u130 u131 u132 u133 I134 => (wL_act_476 a1 post u129 u130 u131 u132 u133 I134)) (fun u137 u138 u139 I140 => (wL_act_536 a1 post u137 u138 u139 I140)) (fun u143 u144 u145 I146 => (wL_act_576 a1 post u143 u144 u145 I146)) (fun u149 u150 u151 I152 => (wL_act_602 a1 (fun u154 u155 I156 => (wL_act_622 a1 post u154 u155 I156)) post u149 u150 u151 I152)) (fun u159 I160 => (wL_act_667 a1 post u159 I160)) (fun u163 u164 I165 => (wL_act_778 a1 post u163 u164 I165)) post u22 u23 u24 u25 u26 I27)) post u15 u16 u17 u18 I19)) post u9 u10 u11 I12)) post u4 u5 I6)) post 0 I)) ∧ (r1 = 0 → (wL_act_17 a1 (fun u168 u169 I170 => (wL_act_42 a1 (fun u171 u172 u173 I174 => (wL_act_70 a1 (fun u175 u176 u177 u178 I179 => (wL_act_99 a1 (fun u180 u181 u182 u183 u184 I185 => (wL_act_127 a1 (fun u186 I187 => (wL_act_296 a1 post u186 I187)) (fun u188 u189 u190 I191 => (wL_act_347 a1 (fun u192 u193 u194 u195 I196 => (wL_act_370 a1 post u192 u193 u194 u195 I196)) post u188 u189 u190 I191)) (fun u197 u198 I199 => (wL_act_388 a1 post u197 u198 I199)) (fun u200 u201 u202 I203 => (wL_act_429 a1 post u200 u201 u202 I203)) (fun u204 u205 u206 u207 u208 I209 => (wL_act_476 a1 post u204 u205 u206 u207 u208 I209)) (fun u210 u211 u212 I213 => (wL_act_536 a1 post u210 u211 u212 I213)) (fun u214 u215 u216 I217 => (wL_act_576 a1 post u214 u215 u216 I217)) (fun u218 u219 u220 I221 => (wL_act_602 a1 (fun u222 u223 I224 => (wL_act_622 a1 post u222 u223 I224)) post u218 u219 u220 I221)) (fun u225 I226 => (wL_act_667 a1 post u225 I226)) (fun u227 u228 I229 => (wL_act_778 a1 post u227 u228 I229)) post u180 u181 u182 u183 u184 I185)) post u175 u176 u177 u178 I179)) post u171 u172 u173 I174)) post u168 u169 I170)) post 1 I))))) := h
  refine V_iload_n dL_act_0 rfl rfl ?_
  refine V_bipush (v := 26) dL_act_1 (by decide) ?_
  refine V_ishr dL_act_3 ?_
  refine V_bipush (v := 14) dL_act_4 (by decide) ?_
  refine V_callSi (st := []) [.int (a1 >>> (26 &&& 31)), .int 14] dL_act_6 ok_mL_low rfl ml_RL_92 st_mL_low (Nat.le_of_ble_eq_true rfl) (by decide) (by decide) (by decide) (s_mL_low hS h) (fun r1 I9 J9 h => ?_)
  obtain ⟨rfl, rfl, h⟩ := h
  refine V_if_ne 16 dL_act_9 rfl (fun hc => ?_) (fun hc => ?_)
  · replace h := h.1 hc
    refine V_iconst (v := 0) dL_act_16 (by decide) ?_
    refine swL_act_17 hS ?_ _ _ h
    · intro u4 u5 I6 h
      refine swL_act_42 hS ?_ _ _ _ h
      · intro u9 u10 u11 I12 h
        refine swL_act_70 hS ?_ _ _ _ _ h
        · intro u15 u16 u17 u18 I19 h
          refine swL_act_99 hS ?_ _ _ _ _ _ h
          · intro u22 u23 u24 u25 u26 I27 h
            refine swL_act_127 hS ?_ ?_ ?_ ?_ ?_ ?_ ?_ ?_ ?_ ?_ _ _ _ _ _ _ h
            · intro u100 I101 h
              refine swL_act_296 hS _ _ h
            · intro u104 u105 u106 I107 h
              refine swL_act_347 hS ?_ _ _ _ _ h
              · intro u110 u111 u112 u113 I114 h
                refine swL_act_370 hS _ _ _ _ _ h
            · intro u117 u118 I119 h
              refine swL_act_388 hS _ _ _ h
            · intro u122 u123 u124 I125 h
              refine swL_act_429 hS _ _ _ _ h
            · intro u129 u130 u131 u132 u133 I134 h
              refine swL_act_476 hS _ _ _ _ _ _ h
            · intro u137 u138 u139 I140 h
              refine swL_act_536 hS _ _ _ _ h
            · intro u143 u144 u145 I146 h
              refine swL_act_576 hS _ _ _ _ h
            · intro u149 u150 u151 I152 h
              refine swL_act_602 hS ?_ _ _ _ _ h
              · intro u154 u155 I156 h
                refine swL_act_622 hS _ _ _ h
            · intro u159 I160 h
              refine swL_act_667 hS _ _ h
            · intro u163 u164 I165 h
              refine swL_act_778 hS _ _ _ h
  · replace h := h.2 hc
    refine V_iconst (v := 1) dL_act_12 (by decide) ?_
    refine V_goto 17 dL_act_13 rfl ?_
    refine swL_act_17 hS ?_ _ _ h
    · intro u168 u169 I170 h
      refine swL_act_42 hS ?_ _ _ _ h
      · intro u171 u172 u173 I174 h
        refine swL_act_70 hS ?_ _ _ _ _ h
        · intro u175 u176 u177 u178 I179 h
          refine swL_act_99 hS ?_ _ _ _ _ _ h
          · intro u180 u181 u182 u183 u184 I185 h
            refine swL_act_127 hS ?_ ?_ ?_ ?_ ?_ ?_ ?_ ?_ ?_ ?_ _ _ _ _ _ _ h
            · intro u186 I187 h
              refine swL_act_296 hS _ _ h
            · intro u188 u189 u190 I191 h
              refine swL_act_347 hS ?_ _ _ _ _ h
              · intro u192 u193 u194 u195 I196 h
                refine swL_act_370 hS _ _ _ _ _ h
            · intro u197 u198 I199 h
              refine swL_act_388 hS _ _ _ h
            · intro u200 u201 u202 I203 h
              refine swL_act_429 hS _ _ _ _ h
            · intro u204 u205 u206 u207 u208 I209 h
              refine swL_act_476 hS _ _ _ _ _ _ h
            · intro u210 u211 u212 I213 h
              refine swL_act_536 hS _ _ _ _ h
            · intro u214 u215 u216 I217 h
              refine swL_act_576 hS _ _ _ _ h
            · intro u218 u219 u220 I221 h
              refine swL_act_602 hS ?_ _ _ _ _ h
              · intro u222 u223 I224 h
                refine swL_act_622 hS _ _ _ h
            · intro u225 I226 h
              refine swL_act_667 hS _ _ h
            · intro u227 u228 I229 h
              refine swL_act_778 hS _ _ _ h
