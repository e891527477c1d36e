/-! constructors: new cells at the end, only their own rows are written -/
theorem q_vbn {S : QS} {N : Nat} (hN : S.2.1 = N) {l : List Value} (h : l.all (fun v => match v with | .ref r => Nat.blt r N || Nat.ble 900000 r | _ => true) = true) : q_vb S.2.1 l := by
  intro r hr
  have h1 : (Nat.blt r N || Nat.ble 900000 r) = true := List.all_eq_true.mp h _ hr
  rw [hN]
  rcases Bool.or_eq_true_iff.mp h1 with h2 | h2
  · exact Or.inl (Nat.le_of_ble_eq_true h2)
  · exact Or.inr (Nat.le_of_ble_eq_true h2)
def q_Rk (q : Nat) (S S2 : QS) : Prop := ∀ r, r < S.2.1 → r ≠ q → S2.2.2.2.2 r = S.2.2.2.2 r
theorem q_Rk.rf {q : Nat} {S : QS} : q_Rk q S S := fun _ _ _ => rfl
theorem q_Rk.new {q : Nat} {S0 S : QS} (h : q_Rk q S0 S) (hN : S0.2.1 ≤ S.2.1) (a ci z : Nat) : q_Rk q S0 (q_nS S a ci z) := fun r hr hq => (if_neg (by omega)).trans (h r hr hq)
theorem q_Rk.put {q p j : Nat} {S0 S : QS} {v : Option Nat} (h : q_Rk q S0 S) (hp : p = q ∨ S0.2.1 ≤ p) : q_Rk q S0 (q_sR S (q_u2 S.2.2.2.2 p j v)) := fun r hr hq => (q_u2_b _ _ _ (by omega)).trans (h r hr hq)
theorem q_Rk.call {q p : Nat} {S0 S S2 : QS} (h : q_Rk q S0 S) (hE : Ex S0 S) (h2 : q_Rk p S S2) (hp : S0.2.1 ≤ p) : q_Rk q S0 S2 := fun r hr hq => (h2 r (Nat.lt_of_lt_of_le hr hE.1) (by omega)).trans (h r hr hq)
def q_Pk (q : Nat) (S : QS) (m : Nat) (P : QS → QI → QJ → Prop) : QP := fun o S2 I2 J2 => o = .inl none ∧ Ex S S2 ∧ q_cl S2 ∧ S2.2.1 = S.2.1 + m ∧ q_Rk q S S2 ∧ P S2 I2 J2
section QK
variable {X : QX} {M : MD} {d cT sT : Nat} {Q : QP} {pc : Nat} {lo : List (Nat × Value)} {st : List Value} {S : QS} {I : QI} {J : QJ} {k n : Nat}
theorem V_callIk {M2 : MD} {d2 c2 s2 q idx m : Nat} {P : QS → QI → QJ → Prop} (As : List Value) (hd : decode M.2.2.1 pc = .ok (.invokespecial idx, 3)) (ok : q_ok M2 As.length) (hh : M2.2.2.2.2.2 = []) (hlk : Cond.methodLink M.1 idx M2.2.1 ∈ q_TB) (hin : Cond.instanceMethod M2.2.1 ∈ q_TB) (hi : M2.2.1.name = "<init>") (hre : M2.2.2.2.2.1 = none)
    (hst : (st.map fun v => v.category).sum ≤ 8) (hdp : d2 + 1 ≤ d) (hc : k + c2 ≤ cT) (hs : n + s2 ≤ sT) (hbl : q_vb S.2.1 (lo.map (·.2))) (hbs : q_vb S.2.1 st) (C2 : CX X M2 d2 c2 s2 (.ref q :: As) S I J (q_Pk q S m P))
    (kk : ∀ (S2 : QS) (I2 : QI) (J2 : QJ), Ex S S2 → q_cl S2 → S2.2.1 = S.2.1 + m → q_Rk q S S2 → P S2 I2 J2 → V X M d cT sT Q (pc + 3) lo st S2 I2 J2 (k + c2) (n + s2)) : V X M d cT sT Q pc lo (As.reverse ++ .ref q :: st) S I J k n := by
  refine V_callI hd ok hh hlk hin hi hre hst hdp hc hs C2 ?_ ?_ ?_
  · rintro E S2 I2 J2 ⟨h, -⟩; cases h
  · rintro v S2 I2 J2 ⟨-, hE, -⟩; exact q_agr hE hbl hbs
  · rintro v S2 I2 J2 ⟨h, hE, hcl, hN, hR, hp⟩; cases h; exact kk S2 I2 J2 hE hcl hN hR hp
end QK
def w_X5_init_at3 (S : QS) (I : QI) (J : QJ) (post : QS → QI → QJ → Prop) : Prop := (∀ a2 : Nat, ∀ S1 : QS, S1 = q_nS S a2 9 30 → (∀ I3 : QI, I3 = q_rw I 4 (fun _ => 0) → (∀ S4 : QS, S4 = q_sR S1 (q_u2 S1.2.2.2.2 3 0 (some 4)) → (∀ a6 : Nat, ∀ S5 : QS, S5 = q_nS S4 a6 11 10 → (∀ I7 : QI, I7 = q_rw I3 5 (fun _ => 0) → (∀ S8 : QS, S8 = q_sR S5 (q_u2 S5.2.2.2.2 3 1 (some 5)) → (post S8 I7 J)))))))
set_option maxRecDepth 100000 in
set_option maxHeartbeats 4000000 in
theorem s_X5_init_at3 {X : QX} {S : QS} {I : QI} {J : QJ} {post : QS → QI → QJ → Prop} (hN : S.2.1 = 4) (hc : q_cl S) (hK3 : S.2.2.1 3 = 5) (h : w_X5_init_at3 S I J post) : CX X mX5_init 1 2 40 [.ref 3] S I J (q_Pk 3 S 2 post) := by
  have hN0 := hN
  have hE : Ex S S := Ex.rf
  have hR : q_Rk 3 S S := q_Rk.rf
  refine CX.of (lo := [(0, .ref 3)]) ok_mX5_init rfl (Nat.le_of_ble_eq_true rfl) rfl ?_
  replace h : (∀ a2 : Nat, ∀ S1 : QS, S1 = q_nS S a2 9 30 → (∀ I3 : QI, I3 = q_rw I 4 (fun _ => 0) → (∀ S4 : QS, S4 = q_sR S1 (q_u2 S1.2.2.2.2 3 0 (some 4)) → (∀ a6 : Nat, ∀ S5 : QS, S5 = q_nS S4 a6 11 10 → (∀ I7 : QI, I7 = q_rw I3 5 (fun _ => 0) → (∀ S8 : QS, S8 = q_sR S5 (q_u2 S5.2.2.2.2 3 1 (some 5)) → (post S8 I7 J))))))) := h
  refine V_aload_n dX5_init_0 rfl rfl ?_
  refine V_objInit dX5_init_1 ml_RX5_3 ob_in ob_co (Nat.le_of_ble_eq_true rfl) ?_
  refine V_aload_n dX5_init_4 rfl rfl ?_
  refine V_bipush (v := 30) dX5_init_5 (by decide) ?_
  refine V_newI (z := 30) dX5_init_7 ac_int (by decide) (by decide) (by decide) (by rw [hN]; decide) hc (q_vbn hN rfl) (q_vbn hN rfl) (by decide) (by decide) (fun a2 => ?_)
  rw [hN]
  refine V_memS (fun S1 e_S1 => ?_)
  refine V_memI (fun I3 e_I3 => ?_)
  replace h := h a2 S1 e_S1 I3 e_I3
  have hM9 := hN
  have hN9 : S1.2.1 = 5 := by rw [e_S1]; show _ + 1 = 5; rw [hN]
  have hc9 : q_cl S1 := by rw [e_S1]; exact q_cl_new hc _ _ _
  have hE9 : Ex S S1 := by rw [e_S1]; exact hE.tr (Ex.new _ (by rw [hN]; decide) _ _ _)
  have hR9 : q_Rk 3 S S1 := by rw [e_S1]; exact hR.new hE.1 _ _ _
  have hK39 : S1.2.2.1 3 = 5 := by rw [e_S1]; exact (if_neg (by rw [hN]; decide)).trans hK3
  clear hc hE hR hK3  
  have hN := hN9
  have hc := hc9
  have hE := hE9
  have hR := hR9
  have hK3 := hK39
  clear hM9
  refine V_putF dX5_init_9 fl_RX5_9 rfl rfl rfl (by rw [hN]; decide) hK3 rfl (fun _ => rfl) (fun _ => rfl) ?_
  refine V_memS (fun S4 e_S4 => ?_)
  replace h := h S4 e_S4
  have hN9 : S4.2.1 = 5 := by rw [e_S4]; exact hN
  have hc9 : q_cl S4 := by rw [e_S4]; exact q_cl_put hc (by rw [hN]; decide)
  have hE9 : Ex S S4 := by rw [e_S4]; exact hE.tr (Ex.put _ _)
  have hR9 : q_Rk 3 S S4 := by rw [e_S4]; exact hR.put (Or.inl rfl)
  have hK39 : S4.2.2.1 3 = 5 := by rw [e_S4]; exact hK3
  clear hc hE hR hK3  
  have hN := hN9
  have hc := hc9
  have hE := hE9
  have hR := hR9
  have hK3 := hK39
  refine V_aload_n dX5_init_12 rfl rfl ?_
  refine V_bipush (v := 10) dX5_init_13 (by decide) ?_
  refine V_newZ (z := 10) dX5_init_15 ac_boolean (by decide) (by decide) (by decide) (by rw [hN]; decide) hc (q_vbn hN rfl) (q_vbn hN rfl) (by decide) (by decide) (fun a6 => ?_)
  rw [hN]
  refine V_memS (fun S5 e_S5 => ?_)
  refine V_memI (fun I7 e_I7 => ?_)
  replace h := h a6 S5 e_S5 I7 e_I7
  have hM9 := hN
  have hN9 : S5.2.1 = 6 := by rw [e_S5]; show _ + 1 = 6; rw [hN]
  have hc9 : q_cl S5 := by rw [e_S5]; exact q_cl_new hc _ _ _
  have hE9 : Ex S S5 := by rw [e_S5]; exact hE.tr (Ex.new _ (by rw [hN]; decide) _ _ _)
  have hR9 : q_Rk 3 S S5 := by rw [e_S5]; exact hR.new hE.1 _ _ _
  have hK39 : S5.2.2.1 3 = 5 := by rw [e_S5]; exact (if_neg (by rw [hN]; decide)).trans hK3
  clear hc hE hR hK3  
  have hN := hN9
  have hc := hc9
  have hE := hE9
  have hR := hR9
  have hK3 := hK39
  clear hM9
  refine V_putF dX5_init_17 fl_RX5_15 rfl rfl rfl (by rw [hN]; decide) hK3 rfl (fun _ => rfl) (fun _ => rfl) ?_
  refine V_memS (fun S8 e_S8 => ?_)
  replace h := h S8 e_S8
  have hN9 : S8.2.1 = 6 := by rw [e_S8]; exact hN
  have hc9 : q_cl S8 := by rw [e_S8]; exact q_cl_put hc (by rw [hN]; decide)
  have hE9 : Ex S S8 := by rw [e_S8]; exact hE.tr (Ex.put _ _)
  have hR9 : q_Rk 3 S S8 := by rw [e_S8]; exact hR.put (Or.inl rfl)
  have hK39 : S8.2.2.1 3 = 5 := by rw [e_S8]; exact hK3
  clear hc hE hR hK3  
  have hN := hN9
  have hc := hc9
  have hE := hE9
  have hR := hR9
  have hK3 := hK39
  exact V_vret dX5_init_20 rfl (by decide) (by decide) ⟨rfl, hE, hc, by rw [hN, hN0], hR, h⟩
def w_X5_init_at6 (S : QS) (I : QI) (J : QJ) (post : QS → QI → QJ → Prop) : Prop := (∀ a2 : Nat, ∀ S1 : QS, S1 = q_nS S a2 9 30 → (∀ I3 : QI, I3 = q_rw I 7 (fun _ => 0) → (∀ S4 : QS, S4 = q_sR S1 (q_u2 S1.2.2.2.2 6 0 (some 7)) → (∀ a6 : Nat, ∀ S5 : QS, S5 = q_nS S4 a6 11 10 → (∀ I7 : QI, I7 = q_rw I3 8 (fun _ => 0) → (∀ S8 : QS, S8 = q_sR S5 (q_u2 S5.2.2.2.2 6 1 (some 8)) → (post S8 I7 J)))))))
set_option maxRecDepth 100000 in
set_option maxHeartbeats 4000000 in
theorem s_X5_init_at6 {X : QX} {S : QS} {I : QI} {J : QJ} {post : QS → QI → QJ → Prop} (hN : S.2.1 = 7) (hc : q_cl S) (hK6 : S.2.2.1 6 = 5) (h : w_X5_init_at6 S I J post) : CX X mX5_init 1 2 40 [.ref 6] S I J (q_Pk 6 S 2 post) := by
  have hN0 := hN
  have hE : Ex S S := Ex.rf
  have hR : q_Rk 6 S S := q_Rk.rf
  refine CX.of (lo := [(0, .ref 6)]) ok_mX5_init rfl (Nat.le_of_ble_eq_true rfl) rfl ?_
  replace h : (∀ a2 : Nat, ∀ S1 : QS, S1 = q_nS S a2 9 30 → (∀ I3 : QI, I3 = q_rw I 7 (fun _ => 0) → (∀ S4 : QS, S4 = q_sR S1 (q_u2 S1.2.2.2.2 6 0 (some 7)) → (∀ a6 : Nat, ∀ S5 : QS, S5 = q_nS S4 a6 11 10 → (∀ I7 : QI, I7 = q_rw I3 8 (fun _ => 0) → (∀ S8 : QS, S8 = q_sR S5 (q_u2 S5.2.2.2.2 6 1 (some 8)) → (post S8 I7 J))))))) := h
  refine V_aload_n dX5_init_0 rfl rfl ?_
  refine V_objInit dX5_init_1 ml_RX5_3 ob_in ob_co (Nat.le_of_ble_eq_true rfl) ?_
  refine V_aload_n dX5_init_4 rfl rfl ?_
  refine V_bipush (v := 30) dX5_init_5 (by decide) ?_
  refine V_newI (z := 30) dX5_init_7 ac_int (by decide) (by decide) (by decide) (by rw [hN]; decide) hc (q_vbn hN rfl) (q_vbn hN rfl) (by decide) (by decide) (fun a2 => ?_)
  rw [hN]
  refine V_memS (fun S1 e_S1 => ?_)
  refine V_memI (fun I3 e_I3 => ?_)
  replace h := h a2 S1 e_S1 I3 e_I3
  have hM9 := hN
  have hN9 : S1.2.1 = 8 := by rw [e_S1]; show _ + 1 = 8; rw [hN]
  have hc9 : q_cl S1 := by rw [e_S1]; exact q_cl_new hc _ _ _
  have hE9 : Ex S S1 := by rw [e_S1]; exact hE.tr (Ex.new _ (by rw [hN]; decide) _ _ _)
  have hR9 : q_Rk 6 S S1 := by rw [e_S1]; exact hR.new hE.1 _ _ _
  have hK69 : S1.2.2.1 6 = 5 := by rw [e_S1]; exact (if_neg (by rw [hN]; decide)).trans hK6
  clear hc hE hR hK6  
  have hN := hN9
  have hc := hc9
  have hE := hE9
  have hR := hR9
  have hK6 := hK69
  clear hM9
  refine V_putF dX5_init_9 fl_RX5_9 rfl rfl rfl (by rw [hN]; decide) hK6 rfl (fun _ => rfl) (fun _ => rfl) ?_
  refine V_memS (fun S4 e_S4 => ?_)
  replace h := h S4 e_S4
  have hN9 : S4.2.1 = 8 := by rw [e_S4]; exact hN
  have hc9 : q_cl S4 := by rw [e_S4]; exact q_cl_put hc (by rw [hN]; decide)
  have hE9 : Ex S S4 := by rw [e_S4]; exact hE.tr (Ex.put _ _)
  have hR9 : q_Rk 6 S S4 := by rw [e_S4]; exact hR.put (Or.inl rfl)
  have hK69 : S4.2.2.1 6 = 5 := by rw [e_S4]; exact hK6
  clear hc hE hR hK6  
  have hN := hN9
  have hc := hc9
  have hE := hE9
  have hR := hR9
  have hK6 := hK69
  refine V_aload_n dX5_init_12 rfl rfl ?_
  refine V_bipush (v := 10) dX5_init_13 (by decide) ?_
  refine V_newZ (z := 10) dX5_init_15 ac_boolean (by decide) (by decide) (by decide) (by rw [hN]; decide) hc (q_vbn hN rfl) (q_vbn hN rfl) (by decide) (by decide) (fun a6 => ?_)
  rw [hN]
  refine V_memS (fun S5 e_S5 => ?_)
  refine V_memI (fun I7 e_I7 => ?_)
  replace h := h a6 S5 e_S5 I7 e_I7
  have hM9 := hN
  have hN9 : S5.2.1 = 9 := by rw [e_S5]; show _ + 1 = 9; rw [hN]
  have hc9 : q_cl S5 := by rw [e_S5]; exact q_cl_new hc _ _ _
  have hE9 : Ex S S5 := by rw [e_S5]; exact hE.tr (Ex.new _ (by rw [hN]; decide) _ _ _)
  have hR9 : q_Rk 6 S S5 := by rw [e_S5]; exact hR.new hE.1 _ _ _
  have hK69 : S5.2.2.1 6 = 5 := by rw [e_S5]; exact (if_neg (by rw [hN]; decide)).trans hK6
  clear hc hE hR hK6  
  have hN := hN9
  have hc := hc9
  have hE := hE9
  have hR := hR9
  have hK6 := hK69
  clear hM9
  refine V_putF dX5_init_17 fl_RX5_15 rfl rfl rfl (by rw [hN]; decide) hK6 rfl (fun _ => rfl) (fun _ => rfl) ?_
  refine V_memS (fun S8 e_S8 => ?_)
  replace h := h S8 e_S8
  have hN9 : S8.2.1 = 9 := by rw [e_S8]; exact hN
  have hc9 : q_cl S8 := by rw [e_S8]; exact q_cl_put hc (by rw [hN]; decide)
  have hE9 : Ex S S8 := by rw [e_S8]; exact hE.tr (Ex.put _ _)
  have hR9 : q_Rk 6 S S8 := by rw [e_S8]; exact hR.put (Or.inl rfl)
  have hK69 : S8.2.2.1 6 = 5 := by rw [e_S8]; exact hK6
  clear hc hE hR hK6  
  have hN := hN9
  have hc := hc9
  have hE := hE9
  have hR := hR9
  have hK6 := hK69
  exact V_vret dX5_init_20 rfl (by decide) (by decide) ⟨rfl, hE, hc, by rw [hN, hN0], hR, h⟩
def w_X5_init_at9 (S : QS) (I : QI) (J : QJ) (post : QS → QI → QJ → Prop) : Prop := (∀ a2 : Nat, ∀ S1 : QS, S1 = q_nS S a2 9 30 → (∀ I3 : QI, I3 = q_rw I 10 (fun _ => 0) → (∀ S4 : QS, S4 = q_sR S1 (q_u2 S1.2.2.2.2 9 0 (some 10)) → (∀ a6 : Nat, ∀ S5 : QS, S5 = q_nS S4 a6 11 10 → (∀ I7 : QI, I7 = q_rw I3 11 (fun _ => 0) → (∀ S8 : QS, S8 = q_sR S5 (q_u2 S5.2.2.2.2 9 1 (some 11)) → (post S8 I7 J)))))))
set_option maxRecDepth 100000 in
set_option maxHeartbeats 4000000 in
theorem s_X5_init_at9 {X : QX} {S : QS} {I : QI} {J : QJ} {post : QS → QI → QJ → Prop} (hN : S.2.1 = 10) (hc : q_cl S) (hK9 : S.2.2.1 9 = 5) (h : w_X5_init_at9 S I J post) : CX X mX5_init 1 2 40 [.ref 9] S I J (q_Pk 9 S 2 post) := by
  have hN0 := hN
  have hE : Ex S S := Ex.rf
  have hR : q_Rk 9 S S := q_Rk.rf
  refine CX.of (lo := [(0, .ref 9)]) ok_mX5_init rfl (Nat.le_of_ble_eq_true rfl) rfl ?_
  replace h : (∀ a2 : Nat, ∀ S1 : QS, S1 = q_nS S a2 9 30 → (∀ I3 : QI, I3 = q_rw I 10 (fun _ => 0) → (∀ S4 : QS, S4 = q_sR S1 (q_u2 S1.2.2.2.2 9 0 (some 10)) → (∀ a6 : Nat, ∀ S5 : QS, S5 = q_nS S4 a6 11 10 → (∀ I7 : QI, I7 = q_rw I3 11 (fun _ => 0) → (∀ S8 : QS, S8 = q_sR S5 (q_u2 S5.2.2.2.2 9 1 (some 11)) → (post S8 I7 J))))))) := h
  refine V_aload_n dX5_init_0 rfl rfl ?_
  refine V_objInit dX5_init_1 ml_RX5_3 ob_in ob_co (Nat.le_of_ble_eq_true rfl) ?_
  refine V_aload_n dX5_init_4 rfl rfl ?_
  refine V_bipush (v := 30) dX5_init_5 (by decide) ?_
  refine V_newI (z := 30) dX5_init_7 ac_int (by decide) (by decide) (by decide) (by rw [hN]; decide) hc (q_vbn hN rfl) (q_vbn hN rfl) (by decide) (by decide) (fun a2 => ?_)
  rw [hN]
  refine V_memS (fun S1 e_S1 => ?_)
  refine V_memI (fun I3 e_I3 => ?_)
  replace h := h a2 S1 e_S1 I3 e_I3
  have hM9 := hN
  have hN9 : S1.2.1 = 11 := by rw [e_S1]; show _ + 1 = 11; rw [hN]
  have hc9 : q_cl S1 := by rw [e_S1]; exact q_cl_new hc _ _ _
  have hE9 : Ex S S1 := by rw [e_S1]; exact hE.tr (Ex.new _ (by rw [hN]; decide) _ _ _)
  have hR9 : q_Rk 9 S S1 := by rw [e_S1]; exact hR.new hE.1 _ _ _
  have hK99 : S1.2.2.1 9 = 5 := by rw [e_S1]; exact (if_neg (by rw [hN]; decide)).trans hK9
  clear hc hE hR hK9  
  have hN := hN9
  have hc := hc9
  have hE := hE9
  have hR := hR9
  have hK9 := hK99
  clear hM9
  refine V_putF dX5_init_9 fl_RX5_9 rfl rfl rfl (by rw [hN]; decide) hK9 rfl (fun _ => rfl) (fun _ => rfl) ?_
  refine V_memS (fun S4 e_S4 => ?_)
  replace h := h S4 e_S4
  have hN9 : S4.2.1 = 11 := by rw [e_S4]; exact hN
  have hc9 : q_cl S4 := by rw [e_S4]; exact q_cl_put hc (by rw [hN]; decide)
  have hE9 : Ex S S4 := by rw [e_S4]; exact hE.tr (Ex.put _ _)
  have hR9 : q_Rk 9 S S4 := by rw [e_S4]; exact hR.put (Or.inl rfl)
  have hK99 : S4.2.2.1 9 = 5 := by rw [e_S4]; exact hK9
  clear hc hE hR hK9  
  have hN := hN9
  have hc := hc9
  have hE := hE9
  have hR := hR9
  have hK9 := hK99
  refine V_aload_n dX5_init_12 rfl rfl ?_
  refine V_bipush (v := 10) dX5_init_13 (by decide) ?_
  refine V_newZ (z := 10) dX5_init_15 ac_boolean (by decide) (by decide) (by decide) (by rw [hN]; decide) hc (q_vbn hN rfl) (q_vbn hN rfl) (by decide) (by decide) (fun a6 => ?_)
  rw [hN]
  refine V_memS (fun S5 e_S5 => ?_)
  refine V_memI (fun I7 e_I7 => ?_)
  replace h := h a6 S5 e_S5 I7 e_I7
  have hM9 := hN
  have hN9 : S5.2.1 = 12 := by rw [e_S5]; show _ + 1 = 12; rw [hN]
  have hc9 : q_cl S5 := by rw [e_S5]; exact q_cl_new hc _ _ _
  have hE9 : Ex S S5 := by rw [e_S5]; exact hE.tr (Ex.new _ (by rw [hN]; decide) _ _ _)
  have hR9 : q_Rk 9 S S5 := by rw [e_S5]; exact hR.new hE.1 _ _ _
  have hK99 : S5.2.2.1 9 = 5 := by rw [e_S5]; exact (if_neg (by rw [hN]; decide)).trans hK9
  clear hc hE hR hK9  
  have hN := hN9
  have hc := hc9
  have hE := hE9
  have hR := hR9
  have hK9 := hK99
  clear hM9
  refine V_putF dX5_init_17 fl_RX5_15 rfl rfl rfl (by rw [hN]; decide) hK9 rfl (fun _ => rfl) (fun _ => rfl) ?_
  refine V_memS (fun S8 e_S8 => ?_)
  replace h := h S8 e_S8
  have hN9 : S8.2.1 = 12 := by rw [e_S8]; exact hN
  have hc9 : q_cl S8 := by rw [e_S8]; exact q_cl_put hc (by rw [hN]; decide)
  have hE9 : Ex S S8 := by rw [e_S8]; exact hE.tr (Ex.put _ _)
  have hR9 : q_Rk 9 S S8 := by rw [e_S8]; exact hR.put (Or.inl rfl)
  have hK99 : S8.2.2.1 9 = 5 := by rw [e_S8]; exact hK9
  clear hc hE hR hK9  
  have hN := hN9
  have hc := hc9
  have hE := hE9
  have hR := hR9
  have hK9 := hK99
  exact V_vret dX5_init_20 rfl (by decide) (by decide) ⟨rfl, hE, hc, by rw [hN, hN0], hR, h⟩
def w_X5_init_at12 (S : QS) (I : QI) (J : QJ) (post : QS → QI → QJ → Prop) : Prop := (∀ a2 : Nat, ∀ S1 : QS, S1 = q_nS S a2 9 30 → (∀ I3 : QI, I3 = q_rw I 13 (fun _ => 0) → (∀ S4 : QS, S4 = q_sR S1 (q_u2 S1.2.2.2.2 12 0 (some 13)) → (∀ a6 : Nat, ∀ S5 : QS, S5 = q_nS S4 a6 11 10 → (∀ I7 : QI, I7 = q_rw I3 14 (fun _ => 0) → (∀ S8 : QS, S8 = q_sR S5 (q_u2 S5.2.2.2.2 12 1 (some 14)) → (post S8 I7 J)))))))
set_option maxRecDepth 100000 in
set_option maxHeartbeats 4000000 in
theorem s_X5_init_at12 {X : QX} {S : QS} {I : QI} {J : QJ} {post : QS → QI → QJ → Prop} (hN : S.2.1 = 13) (hc : q_cl S) (hK12 : S.2.2.1 12 = 5) (h : w_X5_init_at12 S I J post) : CX X mX5_init 1 2 40 [.ref 12] S I J (q_Pk 12 S 2 post) := by
  have hN0 := hN
  have hE : Ex S S := Ex.rf
  have hR : q_Rk 12 S S := q_Rk.rf
  refine CX.of (lo := [(0, .ref 12)]) ok_mX5_init rfl (Nat.le_of_ble_eq_true rfl) rfl ?_
  replace h : (∀ a2 : Nat, ∀ S1 : QS, S1 = q_nS S a2 9 30 → (∀ I3 : QI, I3 = q_rw I 13 (fun _ => 0) → (∀ S4 : QS, S4 = q_sR S1 (q_u2 S1.2.2.2.2 12 0 (some 13)) → (∀ a6 : Nat, ∀ S5 : QS, S5 = q_nS S4 a6 11 10 → (∀ I7 : QI, I7 = q_rw I3 14 (fun _ => 0) → (∀ S8 : QS, S8 = q_sR S5 (q_u2 S5.2.2.2.2 12 1 (some 14)) → (post S8 I7 J))))))) := h
  refine V_aload_n dX5_init_0 rfl rfl ?_
  refine V_objInit dX5_init_1 ml_RX5_3 ob_in ob_co (Nat.le_of_ble_eq_true rfl) ?_
  refine V_aload_n dX5_init_4 rfl rfl ?_
  refine V_bipush (v := 30) dX5_init_5 (by decide) ?_
  refine V_newI (z := 30) dX5_init_7 ac_int (by decide) (by decide) (by decide) (by rw [hN]; decide) hc (q_vbn hN rfl) (q_vbn hN rfl) (by decide) (by decide) (fun a2 => ?_)
  rw [hN]
  refine V_memS (fun S1 e_S1 => ?_)
  refine V_memI (fun I3 e_I3 => ?_)
  replace h := h a2 S1 e_S1 I3 e_I3
  have hM9 := hN
  have hN9 : S1.2.1 = 14 := by rw [e_S1]; show _ + 1 = 14; rw [hN]
  have hc9 : q_cl S1 := by rw [e_S1]; exact q_cl_new hc _ _ _
  have hE9 : Ex S S1 := by rw [e_S1]; exact hE.tr (Ex.new _ (by rw [hN]; decide) _ _ _)
  have hR9 : q_Rk 12 S S1 := by rw [e_S1]; exact hR.new hE.1 _ _ _
  have hK129 : S1.2.2.1 12 = 5 := by rw [e_S1]; exact (if_neg (by rw [hN]; decide)).trans hK12
  clear hc hE hR hK12  
  have hN := hN9
  have hc := hc9
  have hE := hE9
  have hR := hR9
  have hK12 := hK129
  clear hM9
  refine V_putF dX5_init_9 fl_RX5_9 rfl rfl rfl (by rw [hN]; decide) hK12 rfl (fun _ => rfl) (fun _ => rfl) ?_
  refine V_memS (fun S4 e_S4 => ?_)
  replace h := h S4 e_S4
  have hN9 : S4.2.1 = 14 := by rw [e_S4]; exact hN
  have hc9 : q_cl S4 := by rw [e_S4]; exact q_cl_put hc (by rw [hN]; decide)
  have hE9 : Ex S S4 := by rw [e_S4]; exact hE.tr (Ex.put _ _)
  have hR9 : q_Rk 12 S S4 := by rw [e_S4]; exact hR.put (Or.inl rfl)
  have hK129 : S4.2.2.1 12 = 5 := by rw [e_S4]; exact hK12
  clear hc hE hR hK12  
  have hN := hN9
  have hc := hc9
  have hE := hE9
  have hR := hR9
  have hK12 := hK129
  refine V_aload_n dX5_init_12 rfl rfl ?_
  refine V_bipush (v := 10) dX5_init_13 (by decide) ?_
  refine V_newZ (z := 10) dX5_init_15 ac_boolean (by decide) (by decide) (by decide) (by rw [hN]; decide) hc (q_vbn hN rfl) (q_vbn hN rfl) (by decide) (by decide) (fun a6 => ?_)
  rw [hN]
  refine V_memS (fun S5 e_S5 => ?_)
  refine V_memI (fun I7 e_I7 => ?_)
  replace h := h a6 S5 e_S5 I7 e_I7
  have hM9 := hN
  have hN9 : S5.2.1 = 15 := by rw [e_S5]; show _ + 1 = 15; rw [hN]
  have hc9 : q_cl S5 := by rw [e_S5]; exact q_cl_new hc _ _ _
  have hE9 : Ex S S5 := by rw [e_S5]; exact hE.tr (Ex.new _ (by rw [hN]; decide) _ _ _)
  have hR9 : q_Rk 12 S S5 := by rw [e_S5]; exact hR.new hE.1 _ _ _
  have hK129 : S5.2.2.1 12 = 5 := by rw [e_S5]; exact (if_neg (by rw [hN]; decide)).trans hK12
  clear hc hE hR hK12  
  have hN := hN9
  have hc := hc9
  have hE := hE9
  have hR := hR9
  have hK12 := hK129
  clear hM9
  refine V_putF dX5_init_17 fl_RX5_15 rfl rfl rfl (by rw [hN]; decide) hK12 rfl (fun _ => rfl) (fun _ => rfl) ?_
  refine V_memS (fun S8 e_S8 => ?_)
  replace h := h S8 e_S8
  have hN9 : S8.2.1 = 15 := by rw [e_S8]; exact hN
  have hc9 : q_cl S8 := by rw [e_S8]; exact q_cl_put hc (by rw [hN]; decide)
  have hE9 : Ex S S8 := by rw [e_S8]; exact hE.tr (Ex.put _ _)
  have hR9 : q_Rk 12 S S8 := by rw [e_S8]; exact hR.put (Or.inl rfl)
  have hK129 : S8.2.2.1 12 = 5 := by rw [e_S8]; exact hK12
  clear hc hE hR hK12  
  have hN := hN9
  have hc := hc9
  have hE := hE9
  have hR := hR9
  have hK12 := hK129
  exact V_vret dX5_init_20 rfl (by decide) (by decide) ⟨rfl, hE, hc, by rw [hN, hN0], hR, h⟩
def w_X4_init_at1 (S : QS) (I : QI) (J : QJ) (post : QS → QI → QJ → Prop) : Prop := (∀ a2 : Nat, ∀ S1 : QS, S1 = q_nS S a2 12 4 → (∀ S3 : QS, S3 = q_sR S1 (q_u2 S1.2.2.2.2 1 0 (some 2)) → (∀ a5 : Nat, ∀ S4 : QS, S4 = q_nS S3 a5 5 0 → (∀ I6 : QI, I6 = q_rw I 3 (fun _ => 0) → (w_X5_init_at3 S4 I6 J (fun S7 I8 J9 => (∀ S10 : QS, S10 = q_sR S7 (q_u2 S7.2.2.2.2 2 (0 : Int32).toNatClampNeg (some 3)) → (∀ a12 : Nat, ∀ S11 : QS, S11 = q_nS S10 a12 5 0 → (∀ I13 : QI, I13 = q_rw I8 6 (fun _ => 0) → (w_X5_init_at6 S11 I13 J9 (fun S14 I15 J16 => (∀ S17 : QS, S17 = q_sR S14 (q_u2 S14.2.2.2.2 2 (1 : Int32).toNatClampNeg (some 6)) → (∀ a19 : Nat, ∀ S18 : QS, S18 = q_nS S17 a19 5 0 → (∀ I20 : QI, I20 = q_rw I15 9 (fun _ => 0) → (w_X5_init_at9 S18 I20 J16 (fun S21 I22 J23 => (∀ S24 : QS, S24 = q_sR S21 (q_u2 S21.2.2.2.2 2 (2 : Int32).toNatClampNeg (some 9)) → (∀ a26 : Nat, ∀ S25 : QS, S25 = q_nS S24 a26 5 0 → (∀ I27 : QI, I27 = q_rw I22 12 (fun _ => 0) → (w_X5_init_at12 S25 I27 J23 (fun S28 I29 J30 => (∀ S31 : QS, S31 = q_sR S28 (q_u2 S28.2.2.2.2 2 (3 : Int32).toNatClampNeg (some 12)) → (∀ I32 : QI, I32 = q_u2 I29 1 2 1 → (post S31 I32 J30))))))))))))))))))))))))
set_option maxRecDepth 100000 in
set_option maxHeartbeats 4000000 in
theorem s_X4_init_at1 {X : QX} {S : QS} {I : QI} {J : QJ} {post : QS → QI → QJ → Prop} (hN : S.2.1 = 2) (hc : q_cl S) (hK1 : S.2.2.1 1 = 4) (h : w_X4_init_at1 S I J post) : CX X mX4_init 2 13 180 [.ref 1] S I J (q_Pk 1 S 13 post) := by
  have hN0 := hN
  have hE : Ex S S := Ex.rf
  have hR : q_Rk 1 S S := q_Rk.rf
  refine CX.of (lo := [(0, .ref 1)]) ok_mX4_init rfl (Nat.le_of_ble_eq_true rfl) rfl ?_
  replace h : (∀ a2 : Nat, ∀ S1 : QS, S1 = q_nS S a2 12 4 → (∀ S3 : QS, S3 = q_sR S1 (q_u2 S1.2.2.2.2 1 0 (some 2)) → (∀ a5 : Nat, ∀ S4 : QS, S4 = q_nS S3 a5 5 0 → (∀ I6 : QI, I6 = q_rw I 3 (fun _ => 0) → (w_X5_init_at3 S4 I6 J (fun S7 I8 J9 => (∀ S10 : QS, S10 = q_sR S7 (q_u2 S7.2.2.2.2 2 (0 : Int32).toNatClampNeg (some 3)) → (∀ a12 : Nat, ∀ S11 : QS, S11 = q_nS S10 a12 5 0 → (∀ I13 : QI, I13 = q_rw I8 6 (fun _ => 0) → (w_X5_init_at6 S11 I13 J9 (fun S14 I15 J16 => (∀ S17 : QS, S17 = q_sR S14 (q_u2 S14.2.2.2.2 2 (1 : Int32).toNatClampNeg (some 6)) → (∀ a19 : Nat, ∀ S18 : QS, S18 = q_nS S17 a19 5 0 → (∀ I20 : QI, I20 = q_rw I15 9 (fun _ => 0) → (w_X5_init_at9 S18 I20 J16 (fun S21 I22 J23 => (∀ S24 : QS, S24 = q_sR S21 (q_u2 S21.2.2.2.2 2 (2 : Int32).toNatClampNeg (some 9)) → (∀ a26 : Nat, ∀ S25 : QS, S25 = q_nS S24 a26 5 0 → (∀ I27 : QI, I27 = q_rw I22 12 (fun _ => 0) → (w_X5_init_at12 S25 I27 J23 (fun S28 I29 J30 => (∀ S31 : QS, S31 = q_sR S28 (q_u2 S28.2.2.2.2 2 (3 : Int32).toNatClampNeg (some 12)) → (∀ I32 : QI, I32 = q_u2 I29 1 2 1 → (post S31 I32 J30)))))))))))))))))))))))) := h
  refine V_aload_n dX4_init_0 rfl rfl ?_
  refine V_objInit dX4_init_1 ml_RX4_3 ob_in ob_co (Nat.le_of_ble_eq_true rfl) ?_
  refine V_aload_n dX4_init_4 rfl rfl ?_
  refine V_iconst (v := 4) dX4_init_5 (by decide) ?_
  refine V_newT (z := 4) dX4_init_6 cl_RX4_9 (by decide) (by decide) (by decide) (by rw [hN]; decide) hc (q_vbn hN rfl) (q_vbn hN rfl) (by decide) (by decide) (fun a2 => ?_)
  rw [hN]
  refine V_memS (fun S1 e_S1 => ?_)
  replace h := h a2 S1 e_S1
  have hM9 := hN
  have hN9 : S1.2.1 = 3 := by rw [e_S1]; show _ + 1 = 3; rw [hN]
  have hc9 : q_cl S1 := by rw [e_S1]; exact q_cl_new hc _ _ _
  have hE9 : Ex S S1 := by rw [e_S1]; exact hE.tr (Ex.new _ (by rw [hN]; decide) _ _ _)
  have hR9 : q_Rk 1 S S1 := by rw [e_S1]; exact hR.new hE.1 _ _ _
  have hK19 : S1.2.2.1 1 = 4 := by rw [e_S1]; exact (if_neg (by rw [hN]; decide)).trans hK1
  clear hc hE hR hK1  
  have hN := hN9
  have hc := hc9
  have hE := hE9
  have hR := hR9
  have hK1 := hK19
  have hK2 : S1.2.2.1 2 = 12 := by rw [e_S1]; exact if_pos hM9.symm
  have hZ2 : S1.2.2.2.1 2 = 4 := by rw [e_S1]; exact if_pos hM9.symm
  clear hM9
  refine V_putF dX4_init_9 fl_RX4_11 rfl rfl rfl (by rw [hN]; decide) hK1 rfl (fun _ => rfl) (fun _ => rfl) ?_
  refine V_memS (fun S3 e_S3 => ?_)
  replace h := h S3 e_S3
  have hN9 : S3.2.1 = 3 := by rw [e_S3]; exact hN
  have hc9 : q_cl S3 := by rw [e_S3]; exact q_cl_put hc (by rw [hN]; decide)
  have hE9 : Ex S S3 := by rw [e_S3]; exact hE.tr (Ex.put _ _)
  have hR9 : q_Rk 1 S S3 := by rw [e_S3]; exact hR.put (Or.inl rfl)
  have hK19 : S3.2.2.1 1 = 4 := by rw [e_S3]; exact hK1
  have hK29 : S3.2.2.1 2 = 12 := by rw [e_S3]; exact hK2
  have hZ29 : S3.2.2.2.1 2 = 4 := by rw [e_S3]; exact hZ2
  clear hc hE hR hK1 hK2 hZ2 
  have hN := hN9
  have hc := hc9
  have hE := hE9
  have hR := hR9
  have hK1 := hK19
  have hK2 := hK29
  have hZ2 := hZ29
  have hR1_0 : S3.2.2.2.2 1 0 = some 2 := by rw [e_S3]; exact q_u2_s S1.2.2.2.2 1 0 (some 2)
  refine V_iconst (v := 0) dX4_init_12 (by decide) ?_
  refine V_istore_n (lo2 := [(1, .int 0), (0, .ref 1)]) dX4_init_13 rfl (by decide) rfl ?_
  refine V_iload_n dX4_init_14 rfl rfl ?_
  refine V_iconst (v := 4) dX4_init_15 (by decide) ?_
  refine V_icmp_ge 38 dX4_init_16 rfl (fun hc9 => ?_) (fun hc9 => ?_)
  · first | exact absurd hc9 (by decide) | exact absurd (by decide) hc9
  · refine V_aload_n dX4_init_19 rfl rfl ?_
    refine V_getr dX4_init_20 fl_RX4_11 (by rw [hN]; decide) hK1 rfl hR1_0 ?_
    refine V_iload_n dX4_init_23 rfl rfl ?_
    refine V_new (ci := 5) dX4_init_24 (by decide) cl_RX4_9 is_RX5 ii_RX5 (by rw [hN]; decide) hc (q_vbn hN rfl) (q_vbn hN rfl) (by decide) (by decide) (fun a5 => ?_)
    rw [hN]
    refine V_memS (fun S4 e_S4 => ?_)
    refine V_memI (fun I6 e_I6 => ?_)
    replace h := h a5 S4 e_S4 I6 e_I6
    have hM9 := hN
    have hN9 : S4.2.1 = 4 := by rw [e_S4]; show _ + 1 = 4; rw [hN]
    have hc9 : q_cl S4 := by rw [e_S4]; exact q_cl_new hc _ _ _
    have hE9 : Ex S S4 := by rw [e_S4]; exact hE.tr (Ex.new _ (by rw [hN]; decide) _ _ _)
    have hR9 : q_Rk 1 S S4 := by rw [e_S4]; exact hR.new hE.1 _ _ _
    have hK19 : S4.2.2.1 1 = 4 := by rw [e_S4]; exact (if_neg (by rw [hN]; decide)).trans hK1
    have hK29 : S4.2.2.1 2 = 12 := by rw [e_S4]; exact (if_neg (by rw [hN]; decide)).trans hK2
    have hZ29 : S4.2.2.2.1 2 = 4 := by rw [e_S4]; exact (if_neg (by rw [hN]; decide)).trans hZ2
    have hR1_09 : S4.2.2.2.2 1 0 = some 2 := by rw [e_S4]; exact (congrFun (if_neg (by rw [hN]; decide)) _).trans hR1_0
    clear hc hE hR hK1 hK2 hZ2 hR1_0
    have hN := hN9
    have hc := hc9
    have hE := hE9
    have hR := hR9
    have hK1 := hK19
    have hK2 := hK29
    have hZ2 := hZ29
    have hR1_0 := hR1_09
    have hK3 : S4.2.2.1 3 = 5 := by rw [e_S4]; exact if_pos hM9.symm
    clear hM9
    refine V_dup dX4_init_27 rfl ?_
    refine V_callIk (st := [.ref 3, .int 0, .ref 2]) [] dX4_init_28 ok_mX5_init rfl ml_RX4_17 in_mX5_init rfl rfl (Nat.le_of_ble_eq_true rfl) (by decide) (by decide) (by decide) (q_vbn hN rfl) (q_vbn hN rfl) (s_X5_init_at3 hN hc hK3 h) (fun S7 I8 J9 hE8 hc8 hN8 hR8 h => ?_)
    have hN9 : S7.2.1 = 6 := by rw [hN8, hN]
    have hE9 := hE.tr hE8
    have hR9 := hR.call hE hR8 (by rw [hN0]; decide)
    have hK19 : S7.2.2.1 1 = 4 := (hE8.2.1 1 (by rw [hN]; decide)).2.1.trans hK1
    have hK29 : S7.2.2.1 2 = 12 := (hE8.2.1 2 (by rw [hN]; decide)).2.1.trans hK2
    have hZ29 : S7.2.2.2.1 2 = 4 := (hE8.2.1 2 (by rw [hN]; decide)).2.2.trans hZ2
    have hR1_09 : S7.2.2.2.2 1 0 = some 2 := (congrFun (hR8 1 (by rw [hN]; decide) (by decide)) _).trans hR1_0
    have hK39 : S7.2.2.1 3 = 5 := (hE8.2.1 3 (by rw [hN]; decide)).2.1.trans hK3
    clear hc hE hR hK1 hK2 hK3 hZ2 hR1_0
    have hN := hN9
    have hc := hc8
    have hE := hE9
    have hR := hR9
    have hK1 := hK19
    have hK2 := hK29
    have hZ2 := hZ29
    have hR1_0 := hR1_09
    have hK3 := hK39
    refine V_aast dX4_init_31 (by rw [hN]; decide) hK2 (by rw [hN]; decide) hK3 (by rw [hZ2]; exact vp_in_iff.mpr (by decide)) ?_
    refine V_memS (fun S10 e_S10 => ?_)
    replace h := h S10 e_S10
    have hN9 : S10.2.1 = 6 := by rw [e_S10]; exact hN
    have hc9 : q_cl S10 := by rw [e_S10]; exact q_cl_put hc (by rw [hN]; decide)
    have hE9 : Ex S S10 := by rw [e_S10]; exact hE.tr (Ex.put _ _)
    have hR9 : q_Rk 1 S S10 := by rw [e_S10]; exact hR.put (Or.inr (by rw [hN0]; decide))
    have hK19 : S10.2.2.1 1 = 4 := by rw [e_S10]; exact hK1
    have hK29 : S10.2.2.1 2 = 12 := by rw [e_S10]; exact hK2
    have hZ29 : S10.2.2.2.1 2 = 4 := by rw [e_S10]; exact hZ2
    have hR1_09 : S10.2.2.2.2 1 0 = some 2 := by rw [e_S10]; exact (if_neg (t := some 3) (show ¬ ((1 : Nat) = 2 ∧ (0 : Nat) = (0 : Int32).toNatClampNeg) by decide)).trans hR1_0
    have hK39 : S10.2.2.1 3 = 5 := by rw [e_S10]; exact hK3
    clear hc hE hR hK1 hK2 hK3 hZ2 hR1_0
    have hN := hN9
    have hc := hc9
    have hE := hE9
    have hR := hR9
    have hK1 := hK19
    have hK2 := hK29
    have hZ2 := hZ29
    have hR1_0 := hR1_09
    have hK3 := hK39
    refine V_iinc (lo2 := [(1, .int 1), (0, .ref 1)]) 0 dX4_init_32 rfl (v := 1) (by decide) (by decide) rfl ?_
    refine V_goto 14 dX4_init_35 rfl ?_
    refine V_iload_n dX4_init_14 rfl rfl ?_
    refine V_iconst (v := 4) dX4_init_15 (by decide) ?_
    refine V_icmp_ge 38 dX4_init_16 rfl (fun hc9 => ?_) (fun hc9 => ?_)
    · first | exact absurd hc9 (by decide) | exact absurd (by decide) hc9
    · refine V_aload_n dX4_init_19 rfl rfl ?_
      refine V_getr dX4_init_20 fl_RX4_11 (by rw [hN]; decide) hK1 rfl hR1_0 ?_
      refine V_iload_n dX4_init_23 rfl rfl ?_
      refine V_new (ci := 5) dX4_init_24 (by decide) cl_RX4_9 is_RX5 ii_RX5 (by rw [hN]; decide) hc (q_vbn hN rfl) (q_vbn hN rfl) (by decide) (by decide) (fun a12 => ?_)
      rw [hN]
      refine V_memS (fun S11 e_S11 => ?_)
      refine V_memI (fun I13 e_I13 => ?_)
      replace h := h a12 S11 e_S11 I13 e_I13
      have hM9 := hN
      have hN9 : S11.2.1 = 7 := by rw [e_S11]; show _ + 1 = 7; rw [hN]
      have hc9 : q_cl S11 := by rw [e_S11]; exact q_cl_new hc _ _ _
      have hE9 : Ex S S11 := by rw [e_S11]; exact hE.tr (Ex.new _ (by rw [hN]; decide) _ _ _)
      have hR9 : q_Rk 1 S S11 := by rw [e_S11]; exact hR.new hE.1 _ _ _
      have hK19 : S11.2.2.1 1 = 4 := by rw [e_S11]; exact (if_neg (by rw [hN]; decide)).trans hK1
      have hK29 : S11.2.2.1 2 = 12 := by rw [e_S11]; exact (if_neg (by rw [hN]; decide)).trans hK2
      have hZ29 : S11.2.2.2.1 2 = 4 := by rw [e_S11]; exact (if_neg (by rw [hN]; decide)).trans hZ2
      have hR1_09 : S11.2.2.2.2 1 0 = some 2 := by rw [e_S11]; exact (congrFun (if_neg (by rw [hN]; decide)) _).trans hR1_0
      have hK39 : S11.2.2.1 3 = 5 := by rw [e_S11]; exact (if_neg (by rw [hN]; decide)).trans hK3
      clear hc hE hR hK1 hK2 hK3 hZ2 hR1_0
      have hN := hN9
      have hc := hc9
      have hE := hE9
      have hR := hR9
      have hK1 := hK19
      have hK2 := hK29
      have hZ2 := hZ29
      have hR1_0 := hR1_09
      have hK3 := hK39
      have hK6 : S11.2.2.1 6 = 5 := by rw [e_S11]; exact if_pos hM9.symm
      clear hM9
      refine V_dup dX4_init_27 rfl ?_
      refine V_callIk (st := [.ref 6, .int 1, .ref 2]) [] dX4_init_28 ok_mX5_init rfl ml_RX4_17 in_mX5_init rfl rfl (Nat.le_of_ble_eq_true rfl) (by decide) (by decide) (by decide) (q_vbn hN rfl) (q_vbn hN rfl) (s_X5_init_at6 hN hc hK6 h) (fun S14 I15 J16 hE8 hc8 hN8 hR8 h => ?_)
      have hN9 : S14.2.1 = 9 := by rw [hN8, hN]
      have hE9 := hE.tr hE8
      have hR9 := hR.call hE hR8 (by rw [hN0]; decide)
      have hK19 : S14.2.2.1 1 = 4 := (hE8.2.1 1 (by rw [hN]; decide)).2.1.trans hK1
      have hK29 : S14.2.2.1 2 = 12 := (hE8.2.1 2 (by rw [hN]; decide)).2.1.trans hK2
      have hZ29 : S14.2.2.2.1 2 = 4 := (hE8.2.1 2 (by rw [hN]; decide)).2.2.trans hZ2
      have hR1_09 : S14.2.2.2.2 1 0 = some 2 := (congrFun (hR8 1 (by rw [hN]; decide) (by decide)) _).trans hR1_0
      have hK39 : S14.2.2.1 3 = 5 := (hE8.2.1 3 (by rw [hN]; decide)).2.1.trans hK3
      have hK69 : S14.2.2.1 6 = 5 := (hE8.2.1 6 (by rw [hN]; decide)).2.1.trans hK6
      clear hc hE hR hK1 hK2 hK3 hK6 hZ2 hR1_0
      have hN := hN9
      have hc := hc8
      have hE := hE9
      have hR := hR9
      have hK1 := hK19
      have hK2 := hK29
      have hZ2 := hZ29
      have hR1_0 := hR1_09
      have hK3 := hK39
      have hK6 := hK69
      refine V_aast dX4_init_31 (by rw [hN]; decide) hK2 (by rw [hN]; decide) hK6 (by rw [hZ2]; exact vp_in_iff.mpr (by decide)) ?_
      refine V_memS (fun S17 e_S17 => ?_)
      replace h := h S17 e_S17
      have hN9 : S17.2.1 = 9 := by rw [e_S17]; exact hN
      have hc9 : q_cl S17 := by rw [e_S17]; exact q_cl_put hc (by rw [hN]; decide)
      have hE9 : Ex S S17 := by rw [e_S17]; exact hE.tr (Ex.put _ _)
      have hR9 : q_Rk 1 S S17 := by rw [e_S17]; exact hR.put (Or.inr (by rw [hN0]; decide))
      have hK19 : S17.2.2.1 1 = 4 := by rw [e_S17]; exact hK1
      have hK29 : S17.2.2.1 2 = 12 := by rw [e_S17]; exact hK2
      have hZ29 : S17.2.2.2.1 2 = 4 := by rw [e_S17]; exact hZ2
      have hR1_09 : S17.2.2.2.2 1 0 = some 2 := by rw [e_S17]; exact (if_neg (t := some 6) (show ¬ ((1 : Nat) = 2 ∧ (0 : Nat) = (1 : Int32).toNatClampNeg) by decide)).trans hR1_0
      have hK39 : S17.2.2.1 3 = 5 := by rw [e_S17]; exact hK3
      have hK69 : S17.2.2.1 6 = 5 := by rw [e_S17]; exact hK6
      clear hc hE hR hK1 hK2 hK3 hK6 hZ2 hR1_0
      have hN := hN9
      have hc := hc9
      have hE := hE9
      have hR := hR9
      have hK1 := hK19
      have hK2 := hK29
      have hZ2 := hZ29
      have hR1_0 := hR1_09
      have hK3 := hK39
      have hK6 := hK69
      refine V_iinc (lo2 := [(1, .int 2), (0, .ref 1)]) 0 dX4_init_32 rfl (v := 2) (by decide) (by decide) rfl ?_
      refine V_goto 14 dX4_init_35 rfl ?_
      refine V_iload_n dX4_init_14 rfl rfl ?_
      refine V_iconst (v := 4) dX4_init_15 (by decide) ?_
      refine V_icmp_ge 38 dX4_init_16 rfl (fun hc9 => ?_) (fun hc9 => ?_)
      · first | exact absurd hc9 (by decide) | exact absurd (by decide) hc9
      · refine V_aload_n dX4_init_19 rfl rfl ?_
        refine V_getr dX4_init_20 fl_RX4_11 (by rw [hN]; decide) hK1 rfl hR1_0 ?_
        refine V_iload_n dX4_init_23 rfl rfl ?_
        refine V_new (ci := 5) dX4_init_24 (by decide) cl_RX4_9 is_RX5 ii_RX5 (by rw [hN]; decide) hc (q_vbn hN rfl) (q_vbn hN rfl) (by decide) (by decide) (fun a19 => ?_)
        rw [hN]
        refine V_memS (fun S18 e_S18 => ?_)
        refine V_memI (fun I20 e_I20 => ?_)
        replace h := h a19 S18 e_S18 I20 e_I20
        have hM9 := hN
        have hN9 : S18.2.1 = 10 := by rw [e_S18]; show _ + 1 = 10; rw [hN]
        have hc9 : q_cl S18 := by rw [e_S18]; exact q_cl_new hc _ _ _
        have hE9 : Ex S S18 := by rw [e_S18]; exact hE.tr (Ex.new _ (by rw [hN]; decide) _ _ _)
        have hR9 : q_Rk 1 S S18 := by rw [e_S18]; exact hR.new hE.1 _ _ _
        have hK19 : S18.2.2.1 1 = 4 := by rw [e_S18]; exact (if_neg (by rw [hN]; decide)).trans hK1
        have hK29 : S18.2.2.1 2 = 12 := by rw [e_S18]; exact (if_neg (by rw [hN]; decide)).trans hK2
        have hZ29 : S18.2.2.2.1 2 = 4 := by rw [e_S18]; exact (if_neg (by rw [hN]; decide)).trans hZ2
        have hR1_09 : S18.2.2.2.2 1 0 = some 2 := by rw [e_S18]; exact (congrFun (if_neg (by rw [hN]; decide)) _).trans hR1_0
        have hK39 : S18.2.2.1 3 = 5 := by rw [e_S18]; exact (if_neg (by rw [hN]; decide)).trans hK3
        have hK69 : S18.2.2.1 6 = 5 := by rw [e_S18]; exact (if_neg (by rw [hN]; decide)).trans hK6
        clear hc hE hR hK1 hK2 hK3 hK6 hZ2 hR1_0
        have hN := hN9
        have hc := hc9
        have hE := hE9
        have hR := hR9
        have hK1 := hK19
        have hK2 := hK29
        have hZ2 := hZ29
        have hR1_0 := hR1_09
        have hK3 := hK39
        have hK6 := hK69
        have hK9 : S18.2.2.1 9 = 5 := by rw [e_S18]; exact if_pos hM9.symm
        clear hM9
        refine V_dup dX4_init_27 rfl ?_
        refine V_callIk (st := [.ref 9, .int 2, .ref 2]) [] dX4_init_28 ok_mX5_init rfl ml_RX4_17 in_mX5_init rfl rfl (Nat.le_of_ble_eq_true rfl) (by decide) (by decide) (by decide) (q_vbn hN rfl) (q_vbn hN rfl) (s_X5_init_at9 hN hc hK9 h) (fun S21 I22 J23 hE8 hc8 hN8 hR8 h => ?_)
        have hN9 : S21.2.1 = 12 := by rw [hN8, hN]
        have hE9 := hE.tr hE8
        have hR9 := hR.call hE hR8 (by rw [hN0]; decide)
        have hK19 : S21.2.2.1 1 = 4 := (hE8.2.1 1 (by rw [hN]; decide)).2.1.trans hK1
        have hK29 : S21.2.2.1 2 = 12 := (hE8.2.1 2 (by rw [hN]; decide)).2.1.trans hK2
        have hZ29 : S21.2.2.2.1 2 = 4 := (hE8.2.1 2 (by rw [hN]; decide)).2.2.trans hZ2
        have hR1_09 : S21.2.2.2.2 1 0 = some 2 := (congrFun (hR8 1 (by rw [hN]; decide) (by decide)) _).trans hR1_0
        have hK39 : S21.2.2.1 3 = 5 := (hE8.2.1 3 (by rw [hN]; decide)).2.1.trans hK3
        have hK69 : S21.2.2.1 6 = 5 := (hE8.2.1 6 (by rw [hN]; decide)).2.1.trans hK6
        have hK99 : S21.2.2.1 9 = 5 := (hE8.2.1 9 (by rw [hN]; decide)).2.1.trans hK9
        clear hc hE hR hK1 hK2 hK3 hK6 hK9 hZ2 hR1_0
        have hN := hN9
        have hc := hc8
        have hE := hE9
        have hR := hR9
        have hK1 := hK19
        have hK2 := hK29
        have hZ2 := hZ29
        have hR1_0 := hR1_09
        have hK3 := hK39
        have hK6 := hK69
        have hK9 := hK99
        refine V_aast dX4_init_31 (by rw [hN]; decide) hK2 (by rw [hN]; decide) hK9 (by rw [hZ2]; exact vp_in_iff.mpr (by decide)) ?_
        refine V_memS (fun S24 e_S24 => ?_)
        replace h := h S24 e_S24
        have hN9 : S24.2.1 = 12 := by rw [e_S24]; exact hN
        have hc9 : q_cl S24 := by rw [e_S24]; exact q_cl_put hc (by rw [hN]; decide)
        have hE9 : Ex S S24 := by rw [e_S24]; exact hE.tr (Ex.put _ _)
        have hR9 : q_Rk 1 S S24 := by rw [e_S24]; exact hR.put (Or.inr (by rw [hN0]; decide))
        have hK19 : S24.2.2.1 1 = 4 := by rw [e_S24]; exact hK1
        have hK29 : S24.2.2.1 2 = 12 := by rw [e_S24]; exact hK2
        have hZ29 : S24.2.2.2.1 2 = 4 := by rw [e_S24]; exact hZ2
        have hR1_09 : S24.2.2.2.2 1 0 = some 2 := by rw [e_S24]; exact (if_neg (t := some 9) (show ¬ ((1 : Nat) = 2 ∧ (0 : Nat) = (2 : Int32).toNatClampNeg) by decide)).trans hR1_0
        have hK39 : S24.2.2.1 3 = 5 := by rw [e_S24]; exact hK3
        have hK69 : S24.2.2.1 6 = 5 := by rw [e_S24]; exact hK6
        have hK99 : S24.2.2.1 9 = 5 := by rw [e_S24]; exact hK9
        clear hc hE hR hK1 hK2 hK3 hK6 hK9 hZ2 hR1_0
        have hN := hN9
        have hc := hc9
        have hE := hE9
        have hR := hR9
        have hK1 := hK19
        have hK2 := hK29
        have hZ2 := hZ29
        have hR1_0 := hR1_09
        have hK3 := hK39
        have hK6 := hK69
        have hK9 := hK99
        refine V_iinc (lo2 := [(1, .int 3), (0, .ref 1)]) 0 dX4_init_32 rfl (v := 3) (by decide) (by decide) rfl ?_
        refine V_goto 14 dX4_init_35 rfl ?_
        refine V_iload_n dX4_init_14 rfl rfl ?_
        refine V_iconst (v := 4) dX4_init_15 (by decide) ?_
        refine V_icmp_ge 38 dX4_init_16 rfl (fun hc9 => ?_) (fun hc9 => ?_)
        · first | exact absurd hc9 (by decide) | exact absurd (by decide) hc9
        · refine V_aload_n dX4_init_19 rfl rfl ?_
          refine V_getr dX4_init_20 fl_RX4_11 (by rw [hN]; decide) hK1 rfl hR1_0 ?_
          refine V_iload_n dX4_init_23 rfl rfl ?_
          refine V_new (ci := 5) dX4_init_24 (by decide) cl_RX4_9 is_RX5 ii_RX5 (by rw [hN]; decide) hc (q_vbn hN rfl) (q_vbn hN rfl) (by decide) (by decide) (fun a26 => ?_)
          rw [hN]
          refine V_memS (fun S25 e_S25 => ?_)
          refine V_memI (fun I27 e_I27 => ?_)
          replace h := h a26 S25 e_S25 I27 e_I27
          have hM9 := hN
          have hN9 : S25.2.1 = 13 := by rw [e_S25]; show _ + 1 = 13; rw [hN]
          have hc9 : q_cl S25 := by rw [e_S25]; exact q_cl_new hc _ _ _
          have hE9 : Ex S S25 := by rw [e_S25]; exact hE.tr (Ex.new _ (by rw [hN]; decide) _ _ _)
          have hR9 : q_Rk 1 S S25 := by rw [e_S25]; exact hR.new hE.1 _ _ _
          have hK19 : S25.2.2.1 1 = 4 := by rw [e_S25]; exact (if_neg (by rw [hN]; decide)).trans hK1
          have hK29 : S25.2.2.1 2 = 12 := by rw [e_S25]; exact (if_neg (by rw [hN]; decide)).trans hK2
          have hZ29 : S25.2.2.2.1 2 = 4 := by rw [e_S25]; exact (if_neg (by rw [hN]; decide)).trans hZ2
          have hR1_09 : S25.2.2.2.2 1 0 = some 2 := by rw [e_S25]; exact (congrFun (if_neg (by rw [hN]; decide)) _).trans hR1_0
          have hK39 : S25.2.2.1 3 = 5 := by rw [e_S25]; exact (if_neg (by rw [hN]; decide)).trans hK3
          have hK69 : S25.2.2.1 6 = 5 := by rw [e_S25]; exact (if_neg (by rw [hN]; decide)).trans hK6
          have hK99 : S25.2.2.1 9 = 5 := by rw [e_S25]; exact (if_neg (by rw [hN]; decide)).trans hK9
          clear hc hE hR hK1 hK2 hK3 hK6 hK9 hZ2 hR1_0
          have hN := hN9
          have hc := hc9
          have hE := hE9
          have hR := hR9
          have hK1 := hK19
          have hK2 := hK29
          have hZ2 := hZ29
          have hR1_0 := hR1_09
          have hK3 := hK39
          have hK6 := hK69
          have hK9 := hK99
          have hK12 : S25.2.2.1 12 = 5 := by rw [e_S25]; exact if_pos hM9.symm
          clear hM9
          refine V_dup dX4_init_27 rfl ?_
          refine V_callIk (st := [.ref 12, .int 3, .ref 2]) [] dX4_init_28 ok_mX5_init rfl ml_RX4_17 in_mX5_init rfl rfl (Nat.le_of_ble_eq_true rfl) (by decide) (by decide) (by decide) (q_vbn hN rfl) (q_vbn hN rfl) (s_X5_init_at12 hN hc hK12 h) (fun S28 I29 J30 hE8 hc8 hN8 hR8 h => ?_)
          have hN9 : S28.2.1 = 15 := by rw [hN8, hN]
          have hE9 := hE.tr hE8
          have hR9 := hR.call hE hR8 (by rw [hN0]; decide)
          have hK19 : S28.2.2.1 1 = 4 := (hE8.2.1 1 (by rw [hN]; decide)).2.1.trans hK1
          have hK29 : S28.2.2.1 2 = 12 := (hE8.2.1 2 (by rw [hN]; decide)).2.1.trans hK2
          have hZ29 : S28.2.2.2.1 2 = 4 := (hE8.2.1 2 (by rw [hN]; decide)).2.2.trans hZ2
          have hR1_09 : S28.2.2.2.2 1 0 = some 2 := (congrFun (hR8 1 (by rw [hN]; decide) (by decide)) _).trans hR1_0
          have hK39 : S28.2.2.1 3 = 5 := (hE8.2.1 3 (by rw [hN]; decide)).2.1.trans hK3
          have hK69 : S28.2.2.1 6 = 5 := (hE8.2.1 6 (by rw [hN]; decide)).2.1.trans hK6
          have hK99 : S28.2.2.1 9 = 5 := (hE8.2.1 9 (by rw [hN]; decide)).2.1.trans hK9
          have hK129 : S28.2.2.1 12 = 5 := (hE8.2.1 12 (by rw [hN]; decide)).2.1.trans hK12
          clear hc hE hR hK1 hK2 hK3 hK6 hK9 hK12 hZ2 hR1_0
          have hN := hN9
          have hc := hc8
          have hE := hE9
          have hR := hR9
          have hK1 := hK19
          have hK2 := hK29
          have hZ2 := hZ29
          have hR1_0 := hR1_09
          have hK3 := hK39
          have hK6 := hK69
          have hK9 := hK99
          have hK12 := hK129
          refine V_aast dX4_init_31 (by rw [hN]; decide) hK2 (by rw [hN]; decide) hK12 (by rw [hZ2]; exact vp_in_iff.mpr (by decide)) ?_
          refine V_memS (fun S31 e_S31 => ?_)
          replace h := h S31 e_S31
          have hN9 : S31.2.1 = 15 := by rw [e_S31]; exact hN
          have hc9 : q_cl S31 := by rw [e_S31]; exact q_cl_put hc (by rw [hN]; decide)
          have hE9 : Ex S S31 := by rw [e_S31]; exact hE.tr (Ex.put _ _)
          have hR9 : q_Rk 1 S S31 := by rw [e_S31]; exact hR.put (Or.inr (by rw [hN0]; decide))
          have hK19 : S31.2.2.1 1 = 4 := by rw [e_S31]; exact hK1
          have hK29 : S31.2.2.1 2 = 12 := by rw [e_S31]; exact hK2
          have hZ29 : S31.2.2.2.1 2 = 4 := by rw [e_S31]; exact hZ2
          have hR1_09 : S31.2.2.2.2 1 0 = some 2 := by rw [e_S31]; exact (if_neg (t := some 12) (show ¬ ((1 : Nat) = 2 ∧ (0 : Nat) = (3 : Int32).toNatClampNeg) by decide)).trans hR1_0
          have hK39 : S31.2.2.1 3 = 5 := by rw [e_S31]; exact hK3
          have hK69 : S31.2.2.1 6 = 5 := by rw [e_S31]; exact hK6
          have hK99 : S31.2.2.1 9 = 5 := by rw [e_S31]; exact hK9
          have hK129 : S31.2.2.1 12 = 5 := by rw [e_S31]; exact hK12
          clear hc hE hR hK1 hK2 hK3 hK6 hK9 hK12 hZ2 hR1_0
          have hN := hN9
          have hc := hc9
          have hE := hE9
          have hR := hR9
          have hK1 := hK19
          have hK2 := hK29
          have hZ2 := hZ29
          have hR1_0 := hR1_09
          have hK3 := hK39
          have hK6 := hK69
          have hK9 := hK99
          have hK12 := hK129
          refine V_iinc (lo2 := [(1, .int 4), (0, .ref 1)]) 0 dX4_init_32 rfl (v := 4) (by decide) (by decide) rfl ?_
          refine V_goto 14 dX4_init_35 rfl ?_
          refine V_iload_n dX4_init_14 rfl rfl ?_
          refine V_iconst (v := 4) dX4_init_15 (by decide) ?_
          refine V_icmp_ge 38 dX4_init_16 rfl (fun hc9 => ?_) (fun hc9 => ?_)
          · refine V_aload_n dX4_init_38 rfl rfl ?_
            refine V_iconst (v := 1) dX4_init_39 (by decide) ?_
            refine V_puti dX4_init_40 fl_RX4_18 rfl (by rw [hN]; decide) hK1 rfl rfl rfl ?_
            refine V_memI (fun I32 e_I32 => ?_)
            replace h := h I32 e_I32
            exact V_vret dX4_init_43 rfl (by decide) (by decide) ⟨rfl, hE, hc, by rw [hN, hN0], hR, h⟩
          · first | exact absurd hc9 (by decide) | exact absurd (by decide) hc9
