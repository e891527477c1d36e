/-! constructors: new cells at the end, only their own rows are written -/
theorem q_vbn {S : QS} {N : Nat} (hN : S.2.1 = N) {l : List Value} (h : l.all (fun v => match v with | .ref r => Nat.blt r N | _ => true) = true) : q_vb S.2.1 l := by
  intro r hr
  have h1 : Nat.blt r N = true := List.all_eq_true.mp h _ hr
  rw [hN]
  exact Or.inl (Nat.le_of_ble_eq_true h1)
def q_Rk (q : Nat) (S S2 : QS) : Prop := ∀ r, r < S.2.1 → r ≠ q → S2.2.2.2.2 r = S.2.2.2.2 r
theorem q_Rk.rf {q : Nat} {S : QS} : q_Rk q S S := fun _ _ _ => rfl
theorem q_Rk.new {q : Nat} {S0 S : QS} (h : q_Rk q S0 S) (hN : S0.2.1 ≤ S.2.1) (a ci z : Nat) : q_Rk q S0 (q_nS S a ci z) := fun r hr hq => (if_neg (by omega)).trans (h r hr hq)
theorem q_Rk.put {q p j : Nat} {S0 S : QS} {v : Option Nat} (h : q_Rk q S0 S) (hp : p = q ∨ S0.2.1 ≤ p) : q_Rk q S0 (q_sR S (q_u2 S.2.2.2.2 p j v)) := fun r hr hq => (q_u2_b _ _ _ (by omega)).trans (h r hr hq)
theorem q_Rk.call {q p : Nat} {S0 S S2 : QS} (h : q_Rk q S0 S) (hE : Ex S0 S) (h2 : q_Rk p S S2) (hp : S0.2.1 ≤ p) : q_Rk q S0 S2 := fun r hr hq => (h2 r (Nat.lt_of_lt_of_le hr hE.1) (by omega)).trans (h r hr hq)
def q_Pk (q : Nat) (S : QS) (m : Nat) (P : QS → QI → QJ → Prop) : QP := fun o S2 I2 J2 => o = .inl none ∧ Ex S S2 ∧ q_cl S2 ∧ S2.2.1 = S.2.1 + m ∧ q_Rk q S S2 ∧ P S2 I2 J2
section QK
variable {X : QX} {M : MD} {d cT sT : Nat} {Q : QP} {pc : Nat} {lo : List (Nat × Value)} {st : List Value} {S : QS} {I : QI} {J : QJ} {k n : Nat}
theorem V_callIk {M2 : MD} {d2 c2 s2 q idx m : Nat} {P : QS → QI → QJ → Prop} (As : List Value) (hd : decode M.2.2.1 pc = .ok (.invokespecial idx, 3)) (ok : q_ok M2 As.length) (hh : M2.2.2.2.2.2 = []) (hlk : Cond.methodLink M.1 idx M2.2.1 ∈ q_TB) (hin : Cond.instanceMethod M2.2.1 ∈ q_TB) (hi : M2.2.1.name = "<init>") (hre : M2.2.2.2.2.1 = none)
    (hst : (st.map fun v => v.category).sum ≤ 8) (hdp : d2 + 1 ≤ d) (hc : k + c2 ≤ cT) (hs : n + s2 ≤ sT) (hbl : q_vb S.2.1 (lo.map (·.2))) (hbs : q_vb S.2.1 st) (C2 : CX X M2 d2 c2 s2 (.ref q :: As) S I J (q_Pk q S m P))
    (kk : ∀ (S2 : QS) (I2 : QI) (J2 : QJ), Ex S S2 → q_cl S2 → S2.2.1 = S.2.1 + m → q_Rk q S S2 → P S2 I2 J2 → V X M d cT sT Q (pc + 3) lo st S2 I2 J2 (k + c2) (n + s2)) : V X M d cT sT Q pc lo (As.reverse ++ .ref q :: st) S I J k n := by
  refine V_callI hd ok hh hlk hin hi hre hst hdp hc hs C2 ?_ ?_ ?_
  · rintro E S2 I2 J2 ⟨h, -⟩; cases h
  · rintro v S2 I2 J2 ⟨-, hE, -⟩; exact q_agr hE hbl hbs
  · rintro v S2 I2 J2 ⟨h, hE, hcl, hN, hR, hp⟩; cases h; exact kk S2 I2 J2 hE hcl hN hR hp
end QK
def w_X5_init_at3 (S : QS) (I : QI) (J : QJ) (post : QS → QI → QJ → Prop) : Prop := (∀ a2 : Nat, ∀ S1 : QS, S1 = q_nS S a2 9 30 → (∀ I3 : QI, I3 = q_rw I 4 (fun _ => 0) → (∀ S4 : QS, S4 = q_sR S1 (q_u2 S1.2.2.2.2 3 0 (some 4)) → (∀ a6 : Nat, ∀ S5 : QS, S5 = q_nS S4 a6 11 10 → (∀ I7 : QI, I7 = q_rw I3 5 (fun _ => 0) → (∀ S8 : QS, S8 = q_sR S5 (q_u2 S5.2.2.2.2 3 1 (some 5)) → (post S8 I7 J)))))))
set_option maxRecDepth 100000 in
set_option maxHeartbeats 4000000 in
theorem s_X5_init_at3 {X : QX} {S : QS} {I : QI} {J : QJ} {post : QS → QI → QJ → Prop} (hN : S.2.1 = 4) (hc : q_cl S) (hK3 : S.2.2.1 3 = 5) (h : w_X5_init_at3 S I J post) : CX X mX5_init 1 2 40 [.ref 3] S I J (q_Pk 3 S 2 post) := by
  have hN0 := hN
  have hE : Ex S S := Ex.rf
  have hR : q_Rk 3 S S := q_Rk.rf
  refine CX.of (lo := [(0, .ref 3)]) ok_mX5_init rfl (Nat.le_of_ble_eq_true rfl) rfl ?_
  replace h : (∀ a2 : Nat, ∀ S1 : QS, S1 = q_nS S a2 9 30 → (∀ I3 : QI, I3 = q_rw I 4 (fun _ => 0) → (∀ S4 : QS, S4 = q_sR S1 (q_u2 S1.2.2.2.2 3 0 (some 4)) → (∀ a6 : Nat, ∀ S5 : QS, S5 = q_nS S4 a6 11 10 → (∀ I7 : QI, I7 = q_rw I3 5 (fun _ => 0) → (∀ S8 : QS, S8 = q_sR S5 (q_u2 S5.2.2.2.2 3 1 (some 5)) → (post S8 I7 J))))))) := h
  refine V_aload_n dX5_init_0 rfl rfl ?_
  refine V_objInit dX5_init_1 ml_RX5_3 ob_in ob_co (Nat.le_of_ble_eq_true rfl) ?_
  refine V_aload_n dX5_init_4 rfl rfl ?_
  refine V_bipush (v := 30) dX5_init_5 (by decide) ?_
  refine V_newI (z := 30) dX5_init_7 ac_int (by decide) (by decide) (by decide) (by rw [hN]; decide) hc (q_vbn hN rfl) (q_vbn hN rfl) (by decide) (by decide) (fun a2 => ?_)
  rw [hN]
  refine V_memS (fun S1 e_S1 => ?_)
  refine V_memI (fun I3 e_I3 => ?_)
  replace h := h a2 S1 e_S1 I3 e_I3
  have hM9 := hN
  have hN9 : S1.2.1 = 5 := by rw [e_S1]; show _ + 1 = 5; rw [hN]
  have hc9 : q_cl S1 := by rw [e_S1]; exact q_cl_new hc _ _ _
  have hE9 : Ex S S1 := by rw [e_S1]; exact hE.tr (Ex.new _ (by rw [hN]; decide) _ _ _)
  have hR9 : q_Rk 3 S S1 := by rw [e_S1]; exact hR.new hE.1 _ _ _
  have hK39 : S1.2.2.1 3 = 5 := by rw [e_S1]; exact (if_neg (by rw [hN]; decide)).trans hK3
  clear hc hE hR hK3  
  have hN := hN9
  have hc := hc9
  have hE := hE9
  have hR := hR9
  have hK3 := hK39
  clear hM9
  refine V_putF dX5_init_9 fl_RX5_9 rfl rfl rfl (by rw [hN]; decide) hK3 rfl (fun _ => rfl) (fun _ => rfl) ?_
  refine V_memS (fun S4 e_S4 => ?_)
  replace h := h S4 e_S4
  have hN9 : S4.2.1 = 5 := by rw [e_S4]; exact hN
  have hc9 : q_cl S4 := by rw [e_S4]; exact q_cl_put hc (by rw [hN]; decide)
  have hE9 : Ex S S4 := by rw [e_S4]; exact hE.tr (Ex.put _ _)
  have hR9 : q_Rk 3 S S4 := by rw [e_S4]; exact hR.put (Or.inl rfl)
  have hK39 : S4.2.2.1 3 = 5 := by rw [e_S4]; exact hK3
  clear hc hE hR hK3  
  have hN := hN9
  have hc := hc9
  have hE := hE9
  have hR := hR9
  have hK3 := hK39
  refine V_aload_n dX5_init_12 rfl rfl ?_
  refine V_bipush (v := 10) dX5_init_13 (by decide) ?_
  refine V_newZ (z := 10) dX5_init_15 ac_boolean (by decide) (by decide) (by decide) (by rw [hN]; decide) hc (q_vbn hN rfl) (q_vbn hN rfl) (by decide) (by decide) (fun a6 => ?_)
  rw [hN]
  refine V_memS (fun S5 e_S5 => ?_)
  refine V_memI (fun I7 e_I7 => ?_)
  replace h := h a6 S5 e_S5 I7 e_I7
  have hM9 := hN
  have hN9 : S5.2.1 = 6 := by rw [e_S5]; show _ + 1 = 6; rw [hN]
  have hc9 : q_cl S5 := by rw [e_S5]; exact q_cl_new hc _ _ _
  have hE9 : Ex S S5 := by rw [e_S5]; exact hE.tr (Ex.new _ (by rw [hN]; decide) _ _ _)
  have hR9 : q_Rk 3 S S5 := by rw [e_S5]; exact hR.new hE.1 _ _ _
  have hK39 : S5.2.2.1 3 = 5 := by rw [e_S5]; exact (if_neg (by rw [hN]; decide)).trans hK3
  clear hc hE hR hK3  
  have hN := hN9
  have hc := hc9
  have hE := hE9
  have hR := hR9
  have hK3 := hK39
  clear hM9
  refine V_putF dX5_init_17 fl_RX5_15 rfl rfl rfl (by rw [hN]; decide) hK3 rfl (fun _ => rfl) (fun _ => rfl) ?_
  refine V_memS (fun S8 e_S8 => ?_)
  replace h := h S8 e_S8
  have hN9 : S8.2.1 = 6 := by rw [e_S8]; exact hN
  have hc9 : q_cl S8 := by rw [e_S8]; exact q_cl_put hc (by rw [hN]; decide)
  have hE9 : Ex S S8 := by rw [e_S8]; exact hE.tr (Ex.put _ _)
  have hR9 : q_Rk 3 S S8 := by rw [e_S8]; exact hR.put (Or.inl rfl)
  have hK39 : S8.2.2.1 3 = 5 := by rw [e_S8]; exact hK3
  clear hc hE hR hK3  
  have hN := hN9
  have hc := hc9
  have hE := hE9
  have hR := hR9
  have hK3 := hK39
  exact V_vret dX5_init_20 rfl (by decide) (by decide) ⟨rfl, hE, hc, by rw [hN, hN0], hR, h⟩
def w_X5_init_at6 (S : QS) (I : QI) (J : QJ) (post : QS → QI → QJ → Prop) : Prop := (∀ a2 : Nat, ∀ S1 : QS, S1 = q_nS S a2 9 30 → (∀ I3 : QI, I3 = q_rw I 7 (fun _ => 0) → (∀ S4 : QS, S4 = q_sR S1 (q_u2 S1.2.2.2.2 6 0 (some 7)) → (∀ a6 : Nat, ∀ S5 : QS, S5 = q_nS S4 a6 11 10 → (∀ I7 : QI, I7 = q_rw I3 8 (fun _ => 0) → (∀ S8 : QS, S8 = q_sR S5 (q_u2 S5.2.2.2.2 6 1 (some 8)) → (post S8 I7 J)))))))
set_option maxRecDepth 100000 in
set_option maxHeartbeats 4000000 in
theorem s_X5_init_at6 {X : QX} {S : QS} {I : QI} {J : QJ} {post : QS → QI → QJ → Prop} (hN : S.2.1 = 7) (hc : q_cl S) (hK6 : S.2.2.1 6 = 5) (h : w_X5_init_at6 S I J post) : CX X mX5_init 1 2 40 [.ref 6] S I J (q_Pk 6 S 2 post) := by
  have hN0 := hN
  have hE : Ex S S := Ex.rf
  have hR : q_Rk 6 S S := q_Rk.rf
  refine CX.of (lo := [(0, .ref 6)]) ok_mX5_init rfl (Nat.le_of_ble_eq_true rfl) rfl ?_
  replace h : (∀ a2 : Nat, ∀ S1 : QS, S1 = q_nS S a2 9 30 → (∀ I3 : QI, I3 = q_rw I 7 (fun _ => 0) → (∀ S4 : QS, S4 = q_sR S1 (q_u2 S1.2.2.2.2 6 0 (some 7)) → (∀ a6 : Nat, ∀ S5 : QS, S5 = q_nS S4 a6 11 10 → (∀ I7 : QI, I7 = q_rw I3 8 (fun _ => 0) → (∀ S8 : QS, S8 = q_sR S5 (q_u2 S5.2.2.2.2 6 1 (some 8)) → (post S8 I7 J))))))) := h
  refine V_aload_n dX5_init_0 rfl rfl ?_
  refine V_objInit dX5_init_1 ml_RX5_3 ob_in ob_co (Nat.le_of_ble_eq_true rfl) ?_
  refine V_aload_n dX5_init_4 rfl rfl ?_
  refine V_bipush (v := 30) dX5_init_5 (by decide) ?_
  refine V_newI (z := 30) dX5_init_7 ac_int (by decide) (by decide) (by decide) (by rw [hN]; decide) hc (q_vbn hN rfl) (q_vbn hN rfl) (by decide) (by decide) (fun a2 => ?_)
  rw [hN]
  refine V_memS (fun S1 e_S1 => ?_)
  refine V_memI (fun I3 e_I3 => ?_)
  replace h := h a2 S1 e_S1 I3 e_I3
  have hM9 := hN
  have hN9 : S1.2.1 = 8 := by rw [e_S1]; show _ + 1 = 8; rw [hN]
  have hc9 : q_cl S1 := by rw [e_S1]; exact q_cl_new hc _ _ _
  have hE9 : Ex S S1 := by rw [e_S1]; exact hE.tr (Ex.new _ (by rw [hN]; decide) _ _ _)
  have hR9 : q_Rk 6 S S1 := by rw [e_S1]; exact hR.new hE.1 _ _ _
  have hK69 : S1.2.2.1 6 = 5 := by rw [e_S1]; exact (if_neg (by rw [hN]; decide)).trans hK6
  clear hc hE hR hK6  
  have hN := hN9
  have hc := hc9
  have hE := hE9
  have hR := hR9
  have hK6 := hK69
  clear hM9
  refine V_putF dX5_init_9 fl_RX5_9 rfl rfl rfl (by rw [hN]; decide) hK6 rfl (fun _ => rfl) (fun _ => rfl) ?_
  refine V_memS (fun S4 e_S4 => ?_)
  replace h := h S4 e_S4
  have hN9 : S4.2.1 = 8 := by rw [e_S4]; exact hN
  have hc9 : q_cl S4 := by rw [e_S4]; exact q_cl_put hc (by rw [hN]; decide)
  have hE9 : Ex S S4 := by rw [e_S4]; exact hE.tr (Ex.put _ _)
  have hR9 : q_Rk 6 S S4 := by rw [e_S4]; exact hR.put (Or.inl rfl)
  have hK69 : S4.2.2.1 6 = 5 := by rw [e_S4]; exact hK6
  clear hc hE hR hK6  
  have hN := hN9
  have hc := hc9
  have hE := hE9
  have hR := hR9
  have hK6 := hK69
  refine V_aload_n dX5_init_12 rfl rfl ?_
  refine V_bipush (v := 10) dX5_init_13 (by decide) ?_
  refine V_newZ (z := 10) dX5_init_15 ac_boolean (by decide) (by decide) (by decide) (by rw [hN]; decide) hc (q_vbn hN rfl) (q_vbn hN rfl) (by decide) (by decide) (fun a6 => ?_)
  rw [hN]
  refine V_memS (fun S5 e_S5 => ?_)
  refine V_memI (fun I7 e_I7 => ?_)
  replace h := h a6 S5 e_S5 I7 e_I7
  have hM9 := hN
  have hN9 : S5.2.1 = 9 := by rw [e_S5]; show _ + 1 = 9; rw [hN]
  have hc9 : q_cl S5 := by rw [e_S5]; exact q_cl_new hc _ _ _
  have hE9 : Ex S S5 := by rw [e_S5]; exact hE.tr (Ex.new _ (by rw [hN]; decide) _ _ _)
  have hR9 : q_Rk 6 S S5 := by rw [e_S5]; exact hR.new hE.1 _ _ _
  have hK69 : S5.2.2.1 6 = 5 := by rw [e_S5]; exact (if_neg (by rw [hN]; decide)).trans hK6
  clear hc hE hR hK6  
  have hN := hN9
  have hc := hc9
  have hE := hE9
  have hR := hR9
  have hK6 := hK69
  clear hM9
  refine V_putF dX5_init_17 fl_RX5_15 rfl rfl rfl (by rw [hN]; decide) hK6 rfl (fun _ => rfl) (fun _ => rfl) ?_
  refine V_memS (fun S8 e_S8 => ?_)
  replace h := h S8 e_S8
  have hN9 : S8.2.1 = 9 := by rw [e_S8]; exact hN
  have hc9 : q_cl S8 := by rw [e_S8]; exact q_cl_put hc (by rw [hN]; decide)
  have hE9 : Ex S S8 := by rw [e_S8]; exact hE.tr (Ex.put _ _)
  have hR9 : q_Rk 6 S S8 := by rw [e_S8]; exact hR.put (Or.inl rfl)
  have hK69 : S8.2.2.1 6 = 5 := by rw [e_S8]; exact hK6
  clear hc hE hR hK6  
  have hN := hN9
  have hc := hc9
  have hE := hE9
  have hR := hR9
  have hK6 := hK69
  exact V_vret dX5_init_20 rfl (by decide) (by decide) ⟨rfl, hE, hc, by rw [hN, hN0], hR, h⟩
def w_X5_init_at9 (S : QS) (I : QI) (J : QJ) (post : QS → QI → QJ → Prop) : Prop := (∀ a2 : Nat, ∀ S1 : QS, S1 = q_nS S a2 9 30 → (∀ I3 : QI, I3 = q_rw I 10 (fun _ => 0) → (∀ S4 : QS, S4 = q_sR S1 (q_u2 S1.2.2.2.2 9 0 (some 10)) → (∀ a6 : Nat, ∀ S5 : QS, S5 = q_nS S4 a6 11 10 → (∀ I7 : QI, I7 = q_rw I3 11 (fun _ => 0) → (∀ S8 : QS, S8 = q_sR S5 (q_u2 S5.2.2.2.2 9 1 (some 11)) → (post S8 I7 J)))))))
set_option maxRecDepth 100000 in
set_option maxHeartbeats 4000000 in
theorem s_X5_init_at9 {X : QX} {S : QS} {I : QI} {J : QJ} {post : QS → QI → QJ → Prop} (hN : S.2.1 = 10) (hc : q_cl S) (hK9 : S.2.2.1 9 = 5) (h : w_X5_init_at9 S I J post) : CX X mX5_init 1 2 40 [.ref 9] S I J (q_Pk 9 S 2 post) := by
  have hN0 := hN
  have hE : Ex S S := Ex.rf
  have hR : q_Rk 9 S S := q_Rk.rf
  refine CX.of (lo := [(0, .ref 9)]) ok_mX5_init rfl (Nat.le_of_ble_eq_true rfl) rfl ?_
  replace h : (∀ a2 : Nat, ∀ S1 : QS, S1 = q_nS S a2 9 30 → (∀ I3 : QI, I3 = q_rw I 10 (fun _ => 0) → (∀ S4 : QS, S4 = q_sR S1 (q_u2 S1.2.2.2.2 9 0 (some 10)) → (∀ a6 : Nat, ∀ S5 : QS, S5 = q_nS S4 a6 11 10 → (∀ I7 : QI, I7 = q_rw I3 11 (fun _ => 0) → (∀ S8 : QS, S8 = q_sR S5 (q_u2 S5.2.2.2.2 9 1 (some 11)) → (post S8 I7 J))))))) := h
  refine V_aload_n dX5_init_0 rfl rfl ?_
  refine V_objInit dX5_init_1 ml_RX5_3 ob_in ob_co (Nat.le_of_ble_eq_true rfl) ?_
  refine V_aload_n dX5_init_4 rfl rfl ?_
  refine V_bipush (v := 30) dX5_init_5 (by decide) ?_
  refine V_newI (z := 30) dX5_init_7 ac_int (by decide) (by decide) (by decide) (by rw [hN]; decide) hc (q_vbn hN rfl) (q_vbn hN rfl) (by decide) (by decide) (fun a2 => ?_)
  rw [hN]
  refine V_memS (fun S1 e_S1 => ?_)
  refine V_memI (fun I3 e_I3 => ?_)
  replace h := h a2 S1 e_S1 I3 e_I3
  have hM9 := hN
  have hN9 : S1.2.1 = 11 := by rw [e_S1]; show _ + 1 = 11; rw [hN]
  have hc9 : q_cl S1 := by rw [e_S1]; exact q_cl_new hc _ _ _
  have hE9 : Ex S S1 := by rw [e_S1]; exact hE.tr (Ex.new _ (by rw [hN]; decide) _ _ _)
  have hR9 : q_Rk 9 S S1 := by rw [e_S1]; exact hR.new hE.1 _ _ _
  have hK99 : S1.2.2.1 9 = 5 := by rw [e_S1]; exact (if_neg (by rw [hN]; decide)).trans hK9
  clear hc hE hR hK9  
  have hN := hN9
  have hc := hc9
  have hE := hE9
  have hR := hR9
  have hK9 := hK99
  clear hM9
  refine V_putF dX5_init_9 fl_RX5_9 rfl rfl rfl (by rw [hN]; decide) hK9 rfl (fun _ => rfl) (fun _ => rfl) ?_
  refine V_memS (fun S4 e_S4 => ?_)
  replace h := h S4 e_S4
  have hN9 : S4.2.1 = 11 := by rw [e_S4]; exact hN
  have hc9 : q_cl S4 := by rw [e_S4]; exact q_cl_put hc (by rw [hN]; decide)
  have hE9 : Ex S S4 := by rw [e_S4]; exact hE.tr (Ex.put _ _)
  have hR9 : q_Rk 9 S S4 := by rw [e_S4]; exact hR.put (Or.inl rfl)
  have hK99 : S4.2.2.1 9 = 5 := by rw [e_S4]; exact hK9
  clear hc hE hR hK9  
  have hN := hN9
  have hc := hc9
  have hE := hE9
  have hR := hR9
  have hK9 := hK99
  refine V_aload_n dX5_init_12 rfl rfl ?_
  refine V_bipush (v := 10) dX5_init_13 (by decide) ?_
  refine V_newZ (z := 10) dX5_init_15 ac_boolean (by decide) (by decide) (by decide) (by rw [hN]; decide) hc (q_vbn hN rfl) (q_vbn hN rfl) (by decide) (by decide) (fun a6 => ?_)
  rw [hN]
  refine V_memS (fun S5 e_S5 => ?_)
  refine V_memI (fun I7 e_I7 => ?_)
  replace h := h a6 S5 e_S5 I7 e_I7
  have hM9 := hN
  have hN9 : S5.2.1 = 12 := by rw [e_S5]; show _ + 1 = 12; rw [hN]
  have hc9 : q_cl S5 := by rw [e_S5]; exact q_cl_new hc _ _ _
  have hE9 : Ex S S5 := by rw [e_S5]; exact hE.tr (Ex.new _ (by rw [hN]; decide) _ _ _)
  have hR9 : q_Rk 9 S S5 := by rw [e_S5]; exact hR.new hE.1 _ _ _
  have hK99 : S5.2.2.1 9 = 5 := by rw [e_S5]; exact (if_neg (by rw [hN]; decide)).trans hK9
  clear hc hE hR hK9  
  have hN := hN9
  have hc := hc9
  have hE := hE9
  have hR := hR9
  have hK9 := hK99
  clear hM9
  refine V_putF dX5_init_17 fl_RX5_15 rfl rfl rfl (by rw [hN]; decide) hK9 rfl (fun _ => rfl) (fun _ => rfl) ?_
  refine V_memS (fun S8 e_S8 => ?_)
  replace h := h S8 e_S8
  have hN9 : S8.2.1 = 12 := by rw [e_S8]; exact hN
  have hc9 : q_cl S8 := by rw [e_S8]; exact q_cl_put hc (by rw [hN]; decide)
  have hE9 : Ex S S8 := by rw [e_S8]; exact hE.tr (Ex.put _ _)
  have hR9 : q_Rk 9 S S8 := by rw [e_S8]; exact hR.put (Or.inl rfl)
  have hK99 : S8.2.2.1 9 = 5 := by rw [e_S8]; exact hK9
  clear hc hE hR hK9  
  have hN := hN9
  have hc := hc9
  have hE := hE9
  have hR := hR9
  have hK9 := hK99
  exact V_vret dX5_init_20 rfl (by decide) (by decide) ⟨rfl, hE, hc, by rw [hN, hN0], hR, h⟩
def w_X5_init_at12 (S : QS) (I : QI) (J : QJ) (post : QS → QI → QJ → Prop) : Prop := (∀ a2 : Nat, ∀ S1 : QS, S1 = q_nS S a2 9 30 → (∀ I3 : QI, I3 = q_rw I 13 (fun _ => 0) → (∀ S4 : QS, S4 = q_sR S1 (q_u2 S1.2.2.2.2 12 0 (some 13)) → (∀ a6 : Nat, ∀ S5 : QS, S5 = q_nS S4 a6 11 10 → (∀ I7 : QI, I7 = q_rw I3 14 (fun _ => 0) → (∀ S8 : QS, S8 = q_sR S5 (q_u2 S5.2.2.2.2 12 1 (some 14)) → (post S8 I7 J)))))))
set_option maxRecDepth 100000 in
set_option maxHeartbeats 4000000 in
theorem s_X5_init_at12 {X : QX} {S : QS} {I : QI} {J : QJ} {post : QS → QI → QJ → Prop} (hN : S.2.1 = 13) (hc : q_cl S) (hK12 : S.2.2.1 12 = 5) (h : w_X5_init_at12 S I J post) : CX X mX5_init 1 2 40 [.ref 12] S I J (q_Pk 12 S 2 post) := by
  have hN0 := hN
  have hE : Ex S S := Ex.rf
  have hR : q_Rk 12 S S := q_Rk.rf
  refine CX.of (lo := [(0, .ref 12)]) ok_mX5_init rfl (Nat.le_of_ble_eq_true rfl) rfl ?_
  replace h : (∀ a2 : Nat, ∀ S1 : QS, S1 = q_nS S a2 9 30 → (∀ I3 : QI, I3 = q_rw I 13 (fun _ => 0) → (∀ S4 : QS, S4 = q_sR S1 (q_u2 S1.2.2.2.2 12 0 (some 13)) → (∀ a6 : Nat, ∀ S5 : QS, S5 = q_nS S4 a6 11 10 → (∀ I7 : QI, I7 = q_rw I3 14 (fun _ => 0) → (∀ S8 : QS, S8 = q_sR S5 (q_u2 S5.2.2.2.2 12 1 (some 14)) → (post S8 I7 J))))))) := h
  refine V_aload_n dX5_init_0 rfl rfl ?_
  refine V_objInit dX5_init_1 ml_RX5_3 ob_in ob_co (Nat.le_of_ble_eq_true rfl) ?_
  refine V_aload_n dX5_init_4 rfl rfl ?_
  refine V_bipush (v := 30) dX5_init_5 (by decide) ?_
  refine V_newI (z := 30) dX5_init_7 ac_int (by decide) (by decide) (by decide) (by rw [hN]; decide) hc (q_vbn hN rfl) (q_vbn hN rfl) (by decide) (by decide) (fun a2 => ?_)
  rw [hN]
  refine V_memS (fun S1 e_S1 => ?_)
  refine V_memI (fun I3 e_I3 => ?_)
  replace h := h a2 S1 e_S1 I3 e_I3
  have hM9 := hN
  have hN9 : S1.2.1 = 14 := by rw [e_S1]; show _ + 1 = 14; rw [hN]
  have hc9 : q_cl S1 := by rw [e_S1]; exact q_cl_new hc _ _ _
  have hE9 : Ex S S1 := by rw [e_S1]; exact hE.tr (Ex.new _ (by rw [hN]; decide) _ _ _)
  have hR9 : q_Rk 12 S S1 := by rw [e_S1]; exact hR.new hE.1 _ _ _
  have hK129 : S1.2.2.1 12 = 5 := by rw [e_S1]; exact (if_neg (by rw [hN]; decide)).trans hK12
  clear hc hE hR hK12  
  have hN := hN9
  have hc := hc9
  have hE := hE9
  have hR := hR9
  have hK12 := hK129
  clear hM9
  refine V_putF dX5_init_9 fl_RX5_9 rfl rfl rfl (by rw [hN]; decide) hK12 rfl (fun _ => rfl) (fun _ => rfl) ?_
  refine V_memS (fun S4 e_S4 => ?_)
  replace h := h S4 e_S4
  have hN9 : S4.2.1 = 14 := by rw [e_S4]; exact hN
  have hc9 : q_cl S4 := by rw [e_S4]; exact q_cl_put hc (by rw [hN]; decide)
  have hE9 : Ex S S4 := by rw [e_S4]; exact hE.tr (Ex.put _ _)
  have hR9 : q_Rk 12 S S4 := by rw [e_S4]; exact hR.put (Or.inl rfl)
  have hK129 : S4.2.2.1 12 = 5 := by rw [e_S4]; exact hK12
  clear hc hE hR hK12  
  have hN := hN9
  have hc := hc9
  have hE := hE9
  have hR := hR9
  have hK12 := hK129
  refine V_aload_n dX5_init_12 rfl rfl ?_
  refine V_bipush (v := 10) dX5_init_13 (by decide) ?_
  refine V_newZ (z := 10) dX5_init_15 ac_boolean (by decide) (by decide) (by decide) (by rw [hN]; decide) hc (q_vbn hN rfl) (q_vbn hN rfl) (by decide) (by decide) (fun a6 => ?_)
  rw [hN]
  refine V_memS (fun S5 e_S5 => ?_)
  refine V_memI (fun I7 e_I7 => ?_)
  replace h := h a6 S5 e_S5 I7 e_I7
  have hM9 := hN
  have hN9 : S5.2.1 = 15 := by rw [e_S5]; show _ + 1 = 15; rw [hN]
  have hc9 : q_cl S5 := by rw [e_S5]; exact q_cl_new hc _ _ _
  have hE9 : Ex S S5 := by rw [e_S5]; exact hE.tr (Ex.new _ (by rw [hN]; decide) _ _ _)
  have hR9 : q_Rk 12 S S5 := by rw [e_S5]; exact hR.new hE.1 _ _ _
  have hK129 : S5.2.2.1 12 = 5 := by rw [e_S5]; exact (if_neg (by rw [hN]; decide)).trans hK12
  clear hc hE hR hK12  
  have hN := hN9
  have hc := hc9
  have hE := hE9
  have hR := hR9
  have hK12 := hK129
  clear hM9
  refine V_putF dX5_init_17 fl_RX5_15 rfl rfl rfl (by rw [hN]; decide) hK12 rfl (fun _ => rfl) (fun _ => rfl) ?_
  refine V_memS (fun S8 e_S8 => ?_)
  replace h := h S8 e_S8
  have hN9 : S8.2.1 = 15 := by rw [e_S8]; exact hN
  have hc9 : q_cl S8 := by rw [e_S8]; exact q_cl_put hc (by rw [hN]; decide)
  have hE9 : Ex S S8 := by rw [e_S8]; exact hE.tr (Ex.put _ _)
  have hR9 : q_Rk 12 S S8 := by rw [e_S8]; exact hR.put (Or.inl rfl)
  have hK129 : S8.2.2.1 12 = 5 := by rw [e_S8]; exact hK12
  clear hc hE hR hK12  
  have hN := hN9
  have hc := hc9
  have hE := hE9
  have hR := hR9
  have hK12 := hK129
  exact V_vret dX5_init_20 rfl (by decide) (by decide) ⟨rfl, hE, hc, by rw [hN, hN0], hR, h⟩
def w_X4_init_at1 (S : QS) (I : QI) (J : QJ) (post : QS → QI → QJ → Prop) : Prop := (∀ a2 : Nat, ∀ S1 : QS, S1 = q_nS S a2 12 4 → (∀ S3 : QS, S3 = q_sR S1 (q_u2 S1.2.2.2.2 1 0 (some 2)) → (∀ a5 : Nat, ∀ S4 : QS, S4 = q_nS S3 a5 5 0 → (∀ I6 : QI, I6 = q_rw I 3 (fun _ => 0) → (w_X5_init_at3 S4 I6 J (fun S7 I8 J9 => (∀ S10 : QS, S10 = q_sR S7 (q_u2 S7.2.2.2.2 2 (0 : Int32).toNatClampNeg (some 3)) → (∀ a12 : Nat, ∀ S11 : QS, S11 = q_nS S10 a12 5 0 → (∀ I13 : QI, I13 = q_rw I8 6 (fun _ => 0) → (w_X5_init_at6 S11 I13 J9 (fun S14 I15 J16 => (∀ S17 : QS, S17 = q_sR S14 (q_u2 S14.2.2.2.2 2 (1 : Int32).toNatClampNeg (some 6)) → (∀ a19 : Nat, ∀ S18 : QS, S18 = q_nS S17 a19 5 0 → (∀ I20 : QI, I20 = q_rw I15 9 (fun _ => 0) → (w_X5_init_at9 S18 I20 J16 (fun S21 I22 J23 => (∀ S24 : QS, S24 = q_sR S21 (q_u2 S21.2.2.2.2 2 (2 : Int32).toNatClampNeg (some 9)) → (∀ a26 : Nat, ∀ S25 : QS, S25 = q_nS S24 a26 5 0 → (∀ I27 : QI, I27 = q_rw I22 12 (fun _ => 0) → (w_X5_init_at12 S25 I27 J23 (fun S28 I29 J30 => (∀ S31 : QS, S31 = q_sR S28 (q_u2 S28.2.2.2.2 2 (3 : Int32).toNatClampNeg (some 12)) → (∀ I32 : QI, I32 = q_u2 I29 1 2 1 → (post S31 I32 J30))))))))))))))))))))))))
set_option maxRecDepth 100000 in
set_option maxHeartbeats 4000000 in
theorem s_X4_init_at1 {X : QX} {S : QS} {I : QI} {J : QJ} {post : QS → QI → QJ → Prop} (hN : S.2.1 = 2) (hc : q_cl S) (hK1 : S.2.2.1 1 = 4) (h : w_X4_init_at1 S I J post) : CX X mX4_init 2 13 180 [.ref 1] S I J (q_Pk 1 S 13 post) := by
  have hN0 := hN
  have hE : Ex S S := Ex.rf
  have hR : q_Rk 1 S S := q_Rk.rf
  refine CX.of (lo := [(0, .ref 1)]) ok_mX4_init rfl (Nat.le_of_ble_eq_true rfl) rfl ?_
  replace h : (∀ a2 : Nat, ∀ S1 : QS, S1 = q_nS S a2 12 4 → (∀ S3 : QS, S3 = q_sR S1 (q_u2 S1.2.2.2.2 1 0 (some 2)) → (∀ a5 : Nat, ∀ S4 : QS, S4 = q_nS S3 a5 5 0 → (∀ I6 : QI, I6 = q_rw I 3 (fun _ => 0) → (w_X5_init_at3 S4 I6 J (fun S7 I8 J9 => (∀ S10 : QS, S10 = q_sR S7 (q_u2 S7.2.2.2.2 2 (0 : Int32).toNatClampNeg (some 3)) → (∀ a12 : Nat, ∀ S11 : QS, S11 = q_nS S10 a12 5 0 → (∀ I13 : QI, I13 = q_rw I8 6 (fun _ => 0) → (w_X5_init_at6 S11 I13 J9 (fun S14 I15 J16 => (∀ S17 : QS, S17 = q_sR S14 (q_u2 S14.2.2.2.2 2 (1 : Int32).toNatClampNeg (some 6)) → (∀ a19 : Nat, ∀ S18 : QS, S18 = q_nS S17 a19 5 0 → (∀ I20 : QI, I20 = q_rw I15 9 (fun _ => 0) → (w_X5_init_at9 S18 I20 J16 (fun S21 I22 J23 => (∀ S24 : QS, S24 = q_sR S21 (q_u2 S21.2.2.2.2 2 (2 : Int32).toNatClampNeg (some 9)) → (∀ a26 : Nat, ∀ S25 : QS, S25 = q_nS S24 a26 5 0 → (∀ I27 : QI, I27 = q_rw I22 12 (fun _ => 0) → (w_X5_init_at12 S25 I27 J23 (fun S28 I29 J30 => (∀ S31 : QS, S31 = q_sR S28 (q_u2 S28.2.2.2.2 2 (3 : Int32).toNatClampNeg (some 12)) → (∀ I32 : QI, I32 = q_u2 I29 1 2 1 → (post S31 I32 J30)))))))))))))))))))))))) := h
  refine V_aload_n dX4_init_0 rfl rfl ?_
  refine V_objInit dX4_init_1 ml_RX4_3 ob_in ob_co (Nat.le_of_ble_eq_true rfl) ?_
  refine V_aload_n dX4_init_4 rfl rfl ?_
  refine V_iconst (v := 4) dX4_init_5 (by decide) ?_
  refine V_newT (z := 4) dX4_init_6 cl_RX4_9 (by decide) (by decide) (by decide) (by rw [hN]; decide) hc (q_vbn hN rfl) (q_vbn hN rfl) (by decide) (by decide) (fun a2 => ?_)
  rw [hN]
  refine V_memS (fun S1 e_S1 => ?_)
  replace h := h a2 S1 e_S1
  have hM9 := hN
  have hN9 : S1.2.1 = 3 := by rw [e_S1]; show _ + 1 = 3; rw [hN]
  have hc9 : q_cl S1 := by rw [e_S1]; exact q_cl_new hc _ _ _
  have hE9 : Ex S S1 := by rw [e_S1]; exact hE.tr (Ex.new _ (by rw [hN]; decide) _ _ _)
  have hR9 : q_Rk 1 S S1 := by rw [e_S1]; exact hR.new hE.1 _ _ _
  have hK19 : S1.2.2.1 1 = 4 := by rw [e_S1]; exact (if_neg (by rw [hN]; decide)).trans hK1
  clear hc hE hR hK1  
  have hN := hN9
  have hc := hc9
  have hE := hE9
  have hR := hR9
  have hK1 := hK19
  have hK2 : S1.2.2.1 2 = 12 := by rw [e_S1]; exact if_pos hM9.symm
  have hZ2 : S1.2.2.2.1 2 = 4 := by rw [e_S1]; exact if_pos hM9.symm
  clear hM9
  refine V_putF dX4_init_9 fl_RX4_11 rfl rfl rfl (by rw [hN]; decide) hK1 rfl (fun _ => rfl) (fun _ => rfl) ?_
  refine V_memS (fun S3 e_S3 => ?_)
  replace h := h S3 e_S3
  have hN9 : S3.2.1 = 3 := by rw [e_S3]; exact hN
  have hc9 : q_cl S3 := by rw [e_S3]; exact q_cl_put hc (by rw [hN]; decide)
  have hE9 : Ex S S3 := by rw [e_S3]; exact hE.tr (Ex.put _ _)
  have hR9 : q_Rk 1 S S3 := by rw [e_S3]; exact hR.put (Or.inl rfl)
  have hK19 : S3.2.2.1 1 = 4 := by rw [e_S3]; exact hK1
  have hK29 : S3.2.2.1 2 = 12 := by rw [e_S3]; exact hK2
  have hZ29 : S3.2.2.2.1 2 = 4 := by rw [e_S3]; exact hZ2
  clear hc hE hR hK1 hK2 hZ2 
  have hN := hN9
  have hc := hc9
  have hE := hE9
  have hR := hR9
  have hK1 := hK19
  have hK2 := hK29
  have hZ2 := hZ29
  have hR1_0 : S3.2.2.2.2 1 0 = some 2 := by rw [e_S3]; exact q_u2_s _ _ _ _
  refine V_iconst (v := 0) dX4_init_12 (by decide) ?_
  refine V_istore_n (lo2 := [(1, .int 0), (0, .ref 1)]) dX4_init_13 rfl (by decide) rfl ?_
  refine V_iload_n dX4_init_14 rfl rfl ?_
  refine V_iconst (v := 4) dX4_init_15 (by decide) ?_
  refine V_icmp_ge 38 dX4_init_16 rfl (fun hc9 => ?_) (fun hc9 => ?_)
  · first | exact absurd hc9 (by decide) | exact absurd (by decide) hc9
  · refine V_aload_n dX4_init_19 rfl rfl ?_
    refine V_getr dX4_init_20 fl_RX4_11 (by rw [hN]; decide) hK1 rfl hR1_0 ?_
    refine V_iload_n dX4_init_23 rfl rfl ?_
    refine V_new (ci := 5) dX4_init_24 (by decide) cl_RX4_9 is_RX5 ii_RX5 (by rw [hN]; decide) hc (q_vbn hN rfl) (q_vbn hN rfl) (by decide) (by decide) (fun a5 => ?_)
    rw [hN]
    refine V_memS (fun S4 e_S4 => ?_)
    refine V_memI (fun I6 e_I6 => ?_)
    replace h := h a5 S4 e_S4 I6 e_I6
    have hM9 := hN
    have hN9 : S4.2.1 = 4 := by rw [e_S4]; show _ + 1 = 4; rw [hN]
    have hc9 : q_cl S4 := by rw [e_S4]; exact q_cl_new hc _ _ _
    have hE9 : Ex S S4 := by rw [e_S4]; exact hE.tr (Ex.new _ (by rw [hN]; decide) _ _ _)
    have hR9 : q_Rk 1 S S4 := by rw [e_S4]; exact hR.new hE.1 _ _ _
    have hK19 : S4.2.2.1 1 = 4 := by rw [e_S4]; exact (if_neg (by rw [hN]; decide)).trans hK1
    have hK29 : S4.2.2.1 2 = 12 := by rw [e_S4]; exact (if_neg (by rw [hN]; decide)).trans hK2
    have hZ29 : S4.2.2.2.1 2 = 4 := by rw [e_S4]; exact (if_neg (by rw [hN]; decide)).trans hZ2
    have hR1_09 : S4.2.2.2.2 1 0 = some 2 := by rw [e_S4]; exact (congrFun (if_neg (by rw [hN]; decide)) _).trans hR1_0
    clear hc hE hR hK1 hK2 hZ2 hR1_0
    have hN := hN9
    have hc := hc9
    have hE := hE9
    have hR := hR9
    have hK1 := hK19
    have hK2 := hK29
    have hZ2 := hZ29
    have hR1_0 := hR1_09
    have hK3 : S4.2.2.1 3 = 5 := by rw [e_S4]; exact if_pos hM9.symm
    clear hM9
    refine V_dup dX4_init_27 rfl ?_
    refine V_callIk (st := [.ref 3, .int 0, .ref 2]) [] dX4_init_28 ok_mX5_init rfl ml_RX4_17 in_mX5_init rfl rfl (Nat.le_of_ble_eq_true rfl) (by decide) (by decide) (by decide) (q_vbn hN rfl) (q_vbn hN rfl) (s_X5_init_at3 hN hc hK3 h) (fun S7 I8 J9 hE8 hc8 hN8 hR8 h => ?_)
    have hN9 : S7.2.1 = 6 := by rw [hN8, hN]
    have hE9 := hE.tr hE8
    have hR9 := hR.call hE hR8 (by rw [hN0]; decide)
    have hK19 : S7.2.2.1 1 = 4 := (hE8.2.1 1 (by rw [hN]; decide)).2.1.trans hK1
    have hK29 : S7.2.2.1 2 = 12 := (hE8.2.1 2 (by rw [hN]; decide)).2.1.trans hK2
    have hZ29 : S7.2.2.2.1 2 = 4 := (hE8.2.1 2 (by rw [hN]; decide)).2.2.trans hZ2
    have hR1_09 : S7.2.2.2.2 1 0 = some 2 := (congrFun (hR8 1 (by rw [hN]; decide) (by decide)) _).trans hR1_0
    have hK39 : S7.2.2.1 3 = 5 := (hE8.2.1 3 (by rw [hN]; decide)).2.1.trans hK3
    clear hc hE hR hK1 hK2 hK3 hZ2 hR1_0
    have hN := hN9
    have hc := hc8
    have hE := hE9
    have hR := hR9
    have hK1 := hK19
    have hK2 := hK29
    have hZ2 := hZ29
    have hR1_0 := hR1_09
    have hK3 := hK39
    refine V_aast dX4_init_31 (by rw [hN]; decide) hK2 (by rw [hN]; decide) hK3 (by rw [hZ2]; exact vp_in_iff.mpr (by decide)) ?_
    refine V_memS (fun S10 e_S10 => ?_)
    replace h := h S10 e_S10
    have hN9 : S10.2.1 = 6 := by rw [e_S10]; exact hN
    have hc9 : q_cl S10 := by rw [e_S10]; exact q_cl_put hc (by rw [hN]; decide)
    have hE9 : Ex S S10 := by rw [e_S10]; exact hE.tr (Ex.put _ _)
    have hR9 : q_Rk 1 S S10 := by rw [e_S10]; exact hR.put (Or.inr (by rw [hN0]; decide))
    have hK19 : S10.2.2.1 1 = 4 := by rw [e_S10]; exact hK1
    have hK29 : S10.2.2.1 2 = 12 := by rw [e_S10]; exact hK2
    have hZ29 : S10.2.2.2.1 2 = 4 := by rw [e_S10]; exact hZ2
    have hR1_09 : S10.2.2.2.2 1 0 = some 2 := by rw [e_S10]; exact (if_neg (by decide)).trans hR1_0
    have hK39 : S10.2.2.1 3 = 5 := by rw [e_S10]; exact hK3
    clear hc hE hR hK1 hK2 hK3 hZ2 hR1_0
    have hN := hN9
    have hc := hc9
    have hE := hE9
    have hR := hR9
    have hK1 := hK19
    have hK2 := hK29
    have hZ2 := hZ29
    have hR1_0 := hR1_09
    have hK3 := hK39
    refine V_iinc (lo2 := [(1, .int 1), (0, .ref 1)]) 0 dX4_init_32 rfl (v := 1) (by decide) (by decide) rfl ?_
    refine V_goto 14 dX4_init_35 rfl ?_
    refine V_iload_n dX4_init_14 rfl rfl ?_
    refine V_iconst (v := 4) dX4_init_15 (by decide) ?_
    refine V_icmp_ge 38 dX4_init_16 rfl (fun hc9 => ?_) (fun hc9 => ?_)
    · first | exact absurd hc9 (by decide) | exact absurd (by decide) hc9
    · refine V_aload_n dX4_init_19 rfl rfl ?_
      refine V_getr dX4_init_20 fl_RX4_11 (by rw [hN]; decide) hK1 rfl hR1_0 ?_
      refine V_iload_n dX4_init_23 rfl rfl ?_
      refine V_new (ci := 5) dX4_init_24 (by decide) cl_RX4_9 is_RX5 ii_RX5 (by rw [hN]; decide) hc (q_vbn hN rfl) (q_vbn hN rfl) (by decide) (by decide) (fun a12 => ?_)
      rw [hN]
      refine V_memS (fun S11 e_S11 => ?_)
      refine V_memI (fun I13 e_I13 => ?_)
      replace h := h a12 S11 e_S11 I13 e_I13
      have hM9 := hN
      have hN9 : S11.2.1 = 7 := by rw [e_S11]; show _ + 1 = 7; rw [hN]
      have hc9 : q_cl S11 := by rw [e_S11]; exact q_cl_new hc _ _ _
      have hE9 : Ex S S11 := by rw [e_S11]; exact hE.tr (Ex.new _ (by rw [hN]; decide) _ _ _)
      have hR9 : q_Rk 1 S S11 := by rw [e_S11]; exact hR.new hE.1 _ _ _
      have hK19 : S11.2.2.1 1 = 4 := by rw [e_S11]; exact (if_neg (by rw [hN]; decide)).trans hK1
      have hK29 : S11.2.2.1 2 = 12 := by rw [e_S11]; exact (if_neg (by rw [hN]; decide)).trans hK2
      have hZ29 : S11.2.2.2.1 2 = 4 := by rw [e_S11]; exact (if_neg (by rw [hN]; decide)).trans hZ2
      have hR1_09 : S11.2.2.2.2 1 0 = some 2 := by rw [e_S11]; exact (congrFun (if_neg (by rw [hN]; decide)) _).trans hR1_0
      have hK39 : S11.2.2.1 3 = 5 := by rw [e_S11]; exact (if_neg (by rw [hN]; decide)).trans hK3
      clear hc hE hR hK1 hK2 hK3 hZ2 hR1_0
      have hN := hN9
      have hc := hc9
      have hE := hE9
      have hR := hR9
      have hK1 := hK19
      have hK2 := hK29
      have hZ2 := hZ29
      have hR1_0 := hR1_09
      have hK3 := hK39
      have hK6 : S11.2.2.1 6 = 5 := by rw [e_S11]; exact if_pos hM9.symm
      clear hM9
      refine V_dup dX4_init_27 rfl ?_
      refine V_callIk (st := [.ref 6, .int 1, .ref 2]) [] dX4_init_28 ok_mX5_init rfl ml_RX4_17 in_mX5_init rfl rfl (Nat.le_of_ble_eq_true rfl) (by decide) (by decide) (by decide) (q_vbn hN rfl) (q_vbn hN rfl) (s_X5_init_at6 hN hc hK6 h) (fun S14 I15 J16 hE8 hc8 hN8 hR8 h => ?_)
      have hN9 : S14.2.1 = 9 := by rw [hN8, hN]
      have hE9 := hE.tr hE8
      have hR9 := hR.call hE hR8 (by rw [hN0]; decide)
      have hK19 : S14.2.2.1 1 = 4 := (hE8.2.1 1 (by rw [hN]; decide)).2.1.trans hK1
      have hK29 : S14.2.2.1 2 = 12 := (hE8.2.1 2 (by rw [hN]; decide)).2.1.trans hK2
      have hZ29 : S14.2.2.2.1 2 = 4 := (hE8.2.1 2 (by rw [hN]; decide)).2.2.trans hZ2
      have hR1_09 : S14.2.2.2.2 1 0 = some 2 := (congrFun (hR8 1 (by rw [hN]; decide) (by decide)) _).trans hR1_0
      have hK39 : S14.2.2.1 3 = 5 := (hE8.2.1 3 (by rw [hN]; decide)).2.1.trans hK3
      have hK69 : S14.2.2.1 6 = 5 := (hE8.2.1 6 (by rw [hN]; decide)).2.1.trans hK6
      clear hc hE hR hK1 hK2 hK3 hK6 hZ2 hR1_0
      have hN := hN9
      have hc := hc8
      have hE := hE9
      have hR := hR9
      have hK1 := hK19
      have hK2 := hK29
      have hZ2 := hZ29
      have hR1_0 := hR1_09
      have hK3 := hK39
      have hK6 := hK69
      refine V_aast dX4_init_31 (by rw [hN]; decide) hK2 (by rw [hN]; decide) hK6 (by rw [hZ2]; exact vp_in_iff.mpr (by decide)) ?_
      refine V_memS (fun S17 e_S17 => ?_)
      replace h := h S17 e_S17
      have hN9 : S17.2.1 = 9 := by rw [e_S17]; exact hN
      have hc9 : q_cl S17 := by rw [e_S17]; exact q_cl_put hc (by rw [hN]; decide)
      have hE9 : Ex S S17 := by rw [e_S17]; exact hE.tr (Ex.put _ _)
      have hR9 : q_Rk 1 S S17 := by rw [e_S17]; exact hR.put (Or.inr (by rw [hN0]; decide))
      have hK19 : S17.2.2.1 1 = 4 := by rw [e_S17]; exact hK1
      have hK29 : S17.2.2.1 2 = 12 := by rw [e_S17]; exact hK2
      have hZ29 : S17.2.2.2.1 2 = 4 := by rw [e_S17]; exact hZ2
      have hR1_09 : S17.2.2.2.2 1 0 = some 2 := by rw [e_S17]; exact (if_neg (by decide)).trans hR1_0
      have hK39 : S17.2.2.1 3 = 5 := by rw [e_S17]; exact hK3
      have hK69 : S17.2.2.1 6 = 5 := by rw [e_S17]; exact hK6
      clear hc hE hR hK1 hK2 hK3 hK6 hZ2 hR1_0
      have hN := hN9
      have hc := hc9
      have hE := hE9
      have hR := hR9
      have hK1 := hK19
      have hK2 := hK29
      have hZ2 := hZ29
      have hR1_0 := hR1_09
      have hK3 := hK39
      have hK6 := hK69
      refine V_iinc (lo2 := [(1, .int 2), (0, .ref 1)]) 0 dX4_init_32 rfl (v := 2) (by decide) (by decide) rfl ?_
      refine V_goto 14 dX4_init_35 rfl ?_
      refine V_iload_n dX4_init_14 rfl rfl ?_
      refine V_iconst (v := 4) dX4_init_15 (by decide) ?_
      refine V_icmp_ge 38 dX4_init_16 rfl (fun hc9 => ?_) (fun hc9 => ?_)
      · first | exact absurd hc9 (by decide) | exact absurd (by decide) hc9
      · refine V_aload_n dX4_init_19 rfl rfl ?_
        refine V_getr dX4_init_20 fl_RX4_11 (by rw [hN]; decide) hK1 rfl hR1_0 ?_
        refine V_iload_n dX4_init_23 rfl rfl ?_
        refine V_new (ci := 5) dX4_init_24 (by decide) cl_RX4_9 is_RX5 ii_RX5 (by rw [hN]; decide) hc (q_vbn hN rfl) (q_vbn hN rfl) (by decide) (by decide) (fun a19 => ?_)
        rw [hN]
        refine V_memS (fun S18 e_S18 => ?_)
        refine V_memI (fun I20 e_I20 => ?_)
        replace h := h a19 S18 e_S18 I20 e_I20
        have hM9 := hN
        have hN9 : S18.2.1 = 10 := by rw [e_S18]; show _ + 1 = 10; rw [hN]
        have hc9 : q_cl S18 := by rw [e_S18]; exact q_cl_new hc _ _ _
        have hE9 : Ex S S18 := by rw [e_S18]; exact hE.tr (Ex.new _ (by rw [hN]; decide) _ _ _)
        have hR9 : q_Rk 1 S S18 := by rw [e_S18]; exact hR.new hE.1 _ _ _
        have hK19 : S18.2.2.1 1 = 4 := by rw [e_S18]; exact (if_neg (by rw [hN]; decide)).trans hK1
        have hK29 : S18.2.2.1 2 = 12 := by rw [e_S18]; exact (if_neg (by rw [hN]; decide)).trans hK2
        have hZ29 : S18.2.2.2.1 2 = 4 := by rw [e_S18]; exact (if_neg (by rw [hN]; decide)).trans hZ2
        have hR1_09 : S18.2.2.2.2 1 0 = some 2 := by rw [e_S18]; exact (congrFun (if_neg (by rw [hN]; decide)) _).trans hR1_0
        have hK39 : S18.2.2.1 3 = 5 := by rw [e_S18]; exact (if_neg (by rw [hN]; decide)).trans hK3
        have hK69 : S18.2.2.1 6 = 5 := by rw [e_S18]; exact (if_neg (by rw [hN]; decide)).trans hK6
        clear hc hE hR hK1 hK2 hK3 hK6 hZ2 hR1_0
        have hN := hN9
        have hc := hc9
        have hE := hE9
        have hR := hR9
        have hK1 := hK19
        have hK2 := hK29
        have hZ2 := hZ29
        have hR1_0 := hR1_09
        have hK3 := hK39
        have hK6 := hK69
        have hK9 : S18.2.2.1 9 = 5 := by rw [e_S18]; exact if_pos hM9.symm
        clear hM9
        refine V_dup dX4_init_27 rfl ?_
        refine V_callIk (st := [.ref 9, .int 2, .ref 2]) [] dX4_init_28 ok_mX5_init rfl ml_RX4_17 in_mX5_init rfl rfl (Nat.le_of_ble_eq_true rfl) (by decide) (by decide) (by decide) (q_vbn hN rfl) (q_vbn hN rfl) (s_X5_init_at9 hN hc hK9 h) (fun S21 I22 J23 hE8 hc8 hN8 hR8 h => ?_)
        have hN9 : S21.2.1 = 12 := by rw [hN8, hN]
        have hE9 := hE.tr hE8
        have hR9 := hR.call hE hR8 (by rw [hN0]; decide)
        have hK19 : S21.2.2.1 1 = 4 := (hE8.2.1 1 (by rw [hN]; decide)).2.1.trans hK1
        have hK29 : S21.2.2.1 2 = 12 := (hE8.2.1 2 (by rw [hN]; decide)).2.1.trans hK2
        have hZ29 : S21.2.2.2.1 2 = 4 := (hE8.2.1 2 (by rw [hN]; decide)).2.2.trans hZ2
        have hR1_09 : S21.2.2.2.2 1 0 = some 2 := (congrFun (hR8 1 (by rw [hN]; decide) (by decide)) _).trans hR1_0
        have hK39 : S21.2.2.1 3 = 5 := (hE8.2.1 3 (by rw [hN]; decide)).2.1.trans hK3
        have hK69 : S21.2.2.1 6 = 5 := (hE8.2.1 6 (by rw [hN]; decide)).2.1.trans hK6
        have hK99 : S21.2.2.1 9 = 5 := (hE8.2.1 9 (by rw [hN]; decide)).2.1.trans hK9
        clear hc hE hR hK1 hK2 hK3 hK6 hK9 hZ2 hR1_0
        have hN := hN9
        have hc := hc8
        have hE := hE9
        have hR := hR9
        have hK1 := hK19
        have hK2 := hK29
        have hZ2 := hZ29
        have hR1_0 := hR1_09
        have hK3 := hK39
        have hK6 := hK69
        have hK9 := hK99
        refine V_aast dX4_init_31 (by rw [hN]; decide) hK2 (by rw [hN]; decide) hK9 (by rw [hZ2]; exact vp_in_iff.mpr (by decide)) ?_
        refine V_memS (fun S24 e_S24 => ?_)
        replace h := h S24 e_S24
        have hN9 : S24.2.1 = 12 := by rw [e_S24]; exact hN
        have hc9 : q_cl S24 := by rw [e_S24]; exact q_cl_put hc (by rw [hN]; decide)
        have hE9 : Ex S S24 := by rw [e_S24]; exact hE.tr (Ex.put _ _)
        have hR9 : q_Rk 1 S S24 := by rw [e_S24]; exact hR.put (Or.inr (by rw [hN0]; decide))
        have hK19 : S24.2.2.1 1 = 4 := by rw [e_S24]; exact hK1
        have hK29 : S24.2.2.1 2 = 12 := by rw [e_S24]; exact hK2
        have hZ29 : S24.2.2.2.1 2 = 4 := by rw [e_S24]; exact hZ2
        have hR1_09 : S24.2.2.2.2 1 0 = some 2 := by rw [e_S24]; exact (if_neg (by decide)).trans hR1_0
        have hK39 : S24.2.2.1 3 = 5 := by rw [e_S24]; exact hK3
        have hK69 : S24.2.2.1 6 = 5 := by rw [e_S24]; exact hK6
        have hK99 : S24.2.2.1 9 = 5 := by rw [e_S24]; exact hK9
        clear hc hE hR hK1 hK2 hK3 hK6 hK9 hZ2 hR1_0
        have hN := hN9
        have hc := hc9
        have hE := hE9
        have hR := hR9
        have hK1 := hK19
        have hK2 := hK29
        have hZ2 := hZ29
        have hR1_0 := hR1_09
        have hK3 := hK39
        have hK6 := hK69
        have hK9 := hK99
        refine V_iinc (lo2 := [(1, .int 3), (0, .ref 1)]) 0 dX4_init_32 rfl (v := 3) (by decide) (by decide) rfl ?_
        refine V_goto 14 dX4_init_35 rfl ?_
        refine V_iload_n dX4_init_14 rfl rfl ?_
        refine V_iconst (v := 4) dX4_init_15 (by decide) ?_
        refine V_icmp_ge 38 dX4_init_16 rfl (fun hc9 => ?_) (fun hc9 => ?_)
        · first | exact absurd hc9 (by decide) | exact absurd (by decide) hc9
        · refine V_aload_n dX4_init_19 rfl rfl ?_
          refine V_getr dX4_init_20 fl_RX4_11 (by rw [hN]; decide) hK1 rfl hR1_0 ?_
          refine V_iload_n dX4_init_23 rfl rfl ?_
          refine V_new (ci := 5) dX4_init_24 (by decide) cl_RX4_9 is_RX5 ii_RX5 (by rw [hN]; decide) hc (q_vbn hN rfl) (q_vbn hN rfl) (by decide) (by decide) (fun a26 => ?_)
          rw [hN]
          refine V_memS (fun S25 e_S25 => ?_)
          refine V_memI (fun I27 e_I27 => ?_)
          replace h := h a26 S25 e_S25 I27 e_I27
          have hM9 := hN
          have hN9 : S25.2.1 = 13 := by rw [e_S25]; show _ + 1 = 13; rw [hN]
          have hc9 : q_cl S25 := by rw [e_S25]; exact q_cl_new hc _ _ _
          have hE9 : Ex S S25 := by rw [e_S25]; exact hE.tr (Ex.new _ (by rw [hN]; decide) _ _ _)
          have hR9 : q_Rk 1 S S25 := by rw [e_S25]; exact hR.new hE.1 _ _ _
          have hK19 : S25.2.2.1 1 = 4 := by rw [e_S25]; exact (if_neg (by rw [hN]; decide)).trans hK1
          have hK29 : S25.2.2.1 2 = 12 := by rw [e_S25]; exact (if_neg (by rw [hN]; decide)).trans hK2
          have hZ29 : S25.2.2.2.1 2 = 4 := by rw [e_S25]; exact (if_neg (by rw [hN]; decide)).trans hZ2
          have hR1_09 : S25.2.2.2.2 1 0 = some 2 := by rw [e_S25]; exact (congrFun (if_neg (by rw [hN]; decide)) _).trans hR1_0
          have hK39 : S25.2.2.1 3 = 5 := by rw [e_S25]; exact (if_neg (by rw [hN]; decide)).trans hK3
          have hK69 : S25.2.2.1 6 = 5 := by rw [e_S25]; exact (if_neg (by rw [hN]; decide)).trans hK6
          have hK99 : S25.2.2.1 9 = 5 := by rw [e_S25]; exact (if_neg (by rw [hN]; decide)).trans hK9
          clear hc hE hR hK1 hK2 hK3 hK6 hK9 hZ2 hR1_0
          have hN := hN9
          have hc := hc9
          have hE := hE9
          have hR := hR9
          have hK1 := hK19
          have hK2 := hK29
          have hZ2 := hZ29
          have hR1_0 := hR1_09
          have hK3 := hK39
          have hK6 := hK69
          have hK9 := hK99
          have hK12 : S25.2.2.1 12 = 5 := by rw [e_S25]; exact if_pos hM9.symm
          clear hM9
          refine V_dup dX4_init_27 rfl ?_
          refine V_callIk (st := [.ref 12, .int 3, .ref 2]) [] dX4_init_28 ok_mX5_init rfl ml_RX4_17 in_mX5_init rfl rfl (Nat.le_of_ble_eq_true rfl) (by decide) (by decide) (by decide) (q_vbn hN rfl) (q_vbn hN rfl) (s_X5_init_at12 hN hc hK12 h) (fun S28 I29 J30 hE8 hc8 hN8 hR8 h => ?_)
          have hN9 : S28.2.1 = 15 := by rw [hN8, hN]
          have hE9 := hE.tr hE8
          have hR9 := hR.call hE hR8 (by rw [hN0]; decide)
          have hK19 : S28.2.2.1 1 = 4 := (hE8.2.1 1 (by rw [hN]; decide)).2.1.trans hK1
          have hK29 : S28.2.2.1 2 = 12 := (hE8.2.1 2 (by rw [hN]; decide)).2.1.trans hK2
          have hZ29 : S28.2.2.2.1 2 = 4 := (hE8.2.1 2 (by rw [hN]; decide)).2.2.trans hZ2
          have hR1_09 : S28.2.2.2.2 1 0 = some 2 := (congrFun (hR8 1 (by rw [hN]; decide) (by decide)) _).trans hR1_0
          have hK39 : S28.2.2.1 3 = 5 := (hE8.2.1 3 (by rw [hN]; decide)).2.1.trans hK3
          have hK69 : S28.2.2.1 6 = 5 := (hE8.2.1 6 (by rw [hN]; decide)).2.1.trans hK6
          have hK99 : S28.2.2.1 9 = 5 := (hE8.2.1 9 (by rw [hN]; decide)).2.1.trans hK9
          have hK129 : S28.2.2.1 12 = 5 := (hE8.2.1 12 (by rw [hN]; decide)).2.1.trans hK12
          clear hc hE hR hK1 hK2 hK3 hK6 hK9 hK12 hZ2 hR1_0
          have hN := hN9
          have hc := hc8
          have hE := hE9
          have hR := hR9
          have hK1 := hK19
          have hK2 := hK29
          have hZ2 := hZ29
          have hR1_0 := hR1_09
          have hK3 := hK39
          have hK6 := hK69
          have hK9 := hK99
          have hK12 := hK129
          refine V_aast dX4_init_31 (by rw [hN]; decide) hK2 (by rw [hN]; decide) hK12 (by rw [hZ2]; exact vp_in_iff.mpr (by decide)) ?_
          refine V_memS (fun S31 e_S31 => ?_)
          replace h := h S31 e_S31
          have hN9 : S31.2.1 = 15 := by rw [e_S31]; exact hN
          have hc9 : q_cl S31 := by rw [e_S31]; exact q_cl_put hc (by rw [hN]; decide)
          have hE9 : Ex S S31 := by rw [e_S31]; exact hE.tr (Ex.put _ _)
          have hR9 : q_Rk 1 S S31 := by rw [e_S31]; exact hR.put (Or.inr (by rw [hN0]; decide))
          have hK19 : S31.2.2.1 1 = 4 := by rw [e_S31]; exact hK1
          have hK29 : S31.2.2.1 2 = 12 := by rw [e_S31]; exact hK2
          have hZ29 : S31.2.2.2.1 2 = 4 := by rw [e_S31]; exact hZ2
          have hR1_09 : S31.2.2.2.2 1 0 = some 2 := by rw [e_S31]; exact (if_neg (by decide)).trans hR1_0
          have hK39 : S31.2.2.1 3 = 5 := by rw [e_S31]; exact hK3
          have hK69 : S31.2.2.1 6 = 5 := by rw [e_S31]; exact hK6
          have hK99 : S31.2.2.1 9 = 5 := by rw [e_S31]; exact hK9
          have hK129 : S31.2.2.1 12 = 5 := by rw [e_S31]; exact hK12
          clear hc hE hR hK1 hK2 hK3 hK6 hK9 hK12 hZ2 hR1_0
          have hN := hN9
          have hc := hc9
          have hE := hE9
          have hR := hR9
          have hK1 := hK19
          have hK2 := hK29
          have hZ2 := hZ29
          have hR1_0 := hR1_09
          have hK3 := hK39
          have hK6 := hK69
          have hK9 := hK99
          have hK12 := hK129
          refine V_iinc (lo2 := [(1, .int 4), (0, .ref 1)]) 0 dX4_init_32 rfl (v := 4) (by decide) (by decide) rfl ?_
          refine V_goto 14 dX4_init_35 rfl ?_
          refine V_iload_n dX4_init_14 rfl rfl ?_
          refine V_iconst (v := 4) dX4_init_15 (by decide) ?_
          refine V_icmp_ge 38 dX4_init_16 rfl (fun hc9 => ?_) (fun hc9 => ?_)
          · refine V_aload_n dX4_init_38 rfl rfl ?_
            refine V_iconst (v := 1) dX4_init_39 (by decide) ?_
            refine V_puti dX4_init_40 fl_RX4_18 rfl (by rw [hN]; decide) hK1 rfl rfl rfl ?_
            refine V_memI (fun I32 e_I32 => ?_)
            replace h := h I32 e_I32
            exact V_vret dX4_init_43 rfl (by decide) (by decide) ⟨rfl, hE, hc, by rw [hN, hN0], hR, h⟩
          · first | exact absurd hc9 (by decide) | exact absurd (by decide) hc9
def w_X2_init_at15 (S : QS) (I : QI) (J : QJ) (post : QS → QI → QJ → Prop) : Prop := (∀ S1 : QS, S1 = q_sR S (q_u2 S.2.2.2.2 15 0 (some 1)) → (∀ a3 : Nat, ∀ S2 : QS, S2 = q_nS S1 a3 9 24 → (∀ I4 : QI, I4 = q_rw I 16 (fun _ => 0) → (∀ S5 : QS, S5 = q_sR S2 (q_u2 S2.2.2.2.2 15 1 (some 16)) → (∀ a7 : Nat, ∀ S6 : QS, S6 = q_nS S5 a7 9 24 → (∀ I8 : QI, I8 = q_rw I4 17 (fun _ => 0) → (∀ S9 : QS, S9 = q_sR S6 (q_u2 S6.2.2.2.2 15 2 (some 17)) → (∀ a11 : Nat, ∀ S10 : QS, S10 = q_nS S9 a11 9 24 → (∀ I12 : QI, I12 = q_rw I8 18 (fun _ => 0) → (∀ S13 : QS, S13 = q_sR S10 (q_u2 S10.2.2.2.2 15 3 (some 18)) → (∀ a15 : Nat, ∀ S14 : QS, S14 = q_nS S13 a15 9 24 → (∀ I16 : QI, I16 = q_rw I12 19 (fun _ => 0) → (∀ S17 : QS, S17 = q_sR S14 (q_u2 S14.2.2.2.2 15 4 (some 19)) → (∀ a19 : Nat, ∀ S18 : QS, S18 = q_nS S17 a19 9 24 → (∀ I20 : QI, I20 = q_rw I16 20 (fun _ => 0) → (∀ S21 : QS, S21 = q_sR S18 (q_u2 S18.2.2.2.2 15 5 (some 20)) → (∀ a23 : Nat, ∀ S22 : QS, S22 = q_nS S21 a23 9 24 → (∀ I24 : QI, I24 = q_rw I20 21 (fun _ => 0) → (∀ S25 : QS, S25 = q_sR S22 (q_u2 S22.2.2.2.2 15 6 (some 21)) → (∀ a27 : Nat, ∀ S26 : QS, S26 = q_nS S25 a27 9 24 → (∀ I28 : QI, I28 = q_rw I24 22 (fun _ => 0) → (∀ S29 : QS, S29 = q_sR S26 (q_u2 S26.2.2.2.2 15 7 (some 22)) → (post S29 I28 J)))))))))))))))))))))))
set_option maxRecDepth 100000 in
set_option maxHeartbeats 4000000 in
theorem s_X2_init_at15 {X : QX} {S : QS} {I : QI} {J : QJ} {post : QS → QI → QJ → Prop} (hN : S.2.1 = 16) (hc : q_cl S) (hK15 : S.2.2.1 15 = 2) (h : w_X2_init_at15 S I J post) : CX X mX2_init 1 7 168 [.ref 15, .ref 1] S I J (q_Pk 15 S 7 post) := by
  have hN0 := hN
  have hE : Ex S S := Ex.rf
  have hR : q_Rk 15 S S := q_Rk.rf
  refine CX.of (lo := [(0, .ref 15), (1, .ref 1)]) ok_mX2_init rfl (Nat.le_of_ble_eq_true rfl) rfl ?_
  replace h : (∀ S1 : QS, S1 = q_sR S (q_u2 S.2.2.2.2 15 0 (some 1)) → (∀ a3 : Nat, ∀ S2 : QS, S2 = q_nS S1 a3 9 24 → (∀ I4 : QI, I4 = q_rw I 16 (fun _ => 0) → (∀ S5 : QS, S5 = q_sR S2 (q_u2 S2.2.2.2.2 15 1 (some 16)) → (∀ a7 : Nat, ∀ S6 : QS, S6 = q_nS S5 a7 9 24 → (∀ I8 : QI, I8 = q_rw I4 17 (fun _ => 0) → (∀ S9 : QS, S9 = q_sR S6 (q_u2 S6.2.2.2.2 15 2 (some 17)) → (∀ a11 : Nat, ∀ S10 : QS, S10 = q_nS S9 a11 9 24 → (∀ I12 : QI, I12 = q_rw I8 18 (fun _ => 0) → (∀ S13 : QS, S13 = q_sR S10 (q_u2 S10.2.2.2.2 15 3 (some 18)) → (∀ a15 : Nat, ∀ S14 : QS, S14 = q_nS S13 a15 9 24 → (∀ I16 : QI, I16 = q_rw I12 19 (fun _ => 0) → (∀ S17 : QS, S17 = q_sR S14 (q_u2 S14.2.2.2.2 15 4 (some 19)) → (∀ a19 : Nat, ∀ S18 : QS, S18 = q_nS S17 a19 9 24 → (∀ I20 : QI, I20 = q_rw I16 20 (fun _ => 0) → (∀ S21 : QS, S21 = q_sR S18 (q_u2 S18.2.2.2.2 15 5 (some 20)) → (∀ a23 : Nat, ∀ S22 : QS, S22 = q_nS S21 a23 9 24 → (∀ I24 : QI, I24 = q_rw I20 21 (fun _ => 0) → (∀ S25 : QS, S25 = q_sR S22 (q_u2 S22.2.2.2.2 15 6 (some 21)) → (∀ a27 : Nat, ∀ S26 : QS, S26 = q_nS S25 a27 9 24 → (∀ I28 : QI, I28 = q_rw I24 22 (fun _ => 0) → (∀ S29 : QS, S29 = q_sR S26 (q_u2 S26.2.2.2.2 15 7 (some 22)) → (post S29 I28 J))))))))))))))))))))))) := h
  refine V_aload_n dX2_init_0 rfl rfl ?_
  refine V_objInit dX2_init_1 ml_RX2_3 ob_in ob_co (Nat.le_of_ble_eq_true rfl) ?_
  refine V_aload_n dX2_init_4 rfl rfl ?_
  refine V_aload_n dX2_init_5 rfl rfl ?_
  refine V_putF dX2_init_6 fl_RX2_9 rfl rfl rfl (by rw [hN]; decide) hK15 rfl (fun _ => rfl) (fun _ => rfl) ?_
  refine V_memS (fun S1 e_S1 => ?_)
  replace h := h S1 e_S1
  have hN9 : S1.2.1 = 16 := by rw [e_S1]; exact hN
  have hc9 : q_cl S1 := by rw [e_S1]; exact q_cl_put hc (by rw [hN]; decide)
  have hE9 : Ex S S1 := by rw [e_S1]; exact hE.tr (Ex.put _ _)
  have hR9 : q_Rk 15 S S1 := by rw [e_S1]; exact hR.put (Or.inl rfl)
  have hK159 : S1.2.2.1 15 = 2 := by rw [e_S1]; exact hK15
  clear hc hE hR hK15  
  have hN := hN9
  have hc := hc9
  have hE := hE9
  have hR := hR9
  have hK15 := hK159
  refine V_aload_n dX2_init_9 rfl rfl ?_
  refine V_bipush (v := 24) dX2_init_10 (by decide) ?_
  refine V_newI (z := 24) dX2_init_12 ac_int (by decide) (by decide) (by decide) (by rw [hN]; decide) hc (q_vbn hN rfl) (q_vbn hN rfl) (by decide) (by decide) (fun a3 => ?_)
  rw [hN]
  refine V_memS (fun S2 e_S2 => ?_)
  refine V_memI (fun I4 e_I4 => ?_)
  replace h := h a3 S2 e_S2 I4 e_I4
  have hM9 := hN
  have hN9 : S2.2.1 = 17 := by rw [e_S2]; show _ + 1 = 17; rw [hN]
  have hc9 : q_cl S2 := by rw [e_S2]; exact q_cl_new hc _ _ _
  have hE9 : Ex S S2 := by rw [e_S2]; exact hE.tr (Ex.new _ (by rw [hN]; decide) _ _ _)
  have hR9 : q_Rk 15 S S2 := by rw [e_S2]; exact hR.new hE.1 _ _ _
  have hK159 : S2.2.2.1 15 = 2 := by rw [e_S2]; exact (if_neg (by rw [hN]; decide)).trans hK15
  clear hc hE hR hK15  
  have hN := hN9
  have hc := hc9
  have hE := hE9
  have hR := hR9
  have hK15 := hK159
  clear hM9
  refine V_putF dX2_init_14 fl_RX2_15 rfl rfl rfl (by rw [hN]; decide) hK15 rfl (fun _ => rfl) (fun _ => rfl) ?_
  refine V_memS (fun S5 e_S5 => ?_)
  replace h := h S5 e_S5
  have hN9 : S5.2.1 = 17 := by rw [e_S5]; exact hN
  have hc9 : q_cl S5 := by rw [e_S5]; exact q_cl_put hc (by rw [hN]; decide)
  have hE9 : Ex S S5 := by rw [e_S5]; exact hE.tr (Ex.put _ _)
  have hR9 : q_Rk 15 S S5 := by rw [e_S5]; exact hR.put (Or.inl rfl)
  have hK159 : S5.2.2.1 15 = 2 := by rw [e_S5]; exact hK15
  clear hc hE hR hK15  
  have hN := hN9
  have hc := hc9
  have hE := hE9
  have hR := hR9
  have hK15 := hK159
  refine V_aload_n dX2_init_17 rfl rfl ?_
  refine V_bipush (v := 24) dX2_init_18 (by decide) ?_
  refine V_newI (z := 24) dX2_init_20 ac_int (by decide) (by decide) (by decide) (by rw [hN]; decide) hc (q_vbn hN rfl) (q_vbn hN rfl) (by decide) (by decide) (fun a7 => ?_)
  rw [hN]
  refine V_memS (fun S6 e_S6 => ?_)
  refine V_memI (fun I8 e_I8 => ?_)
  replace h := h a7 S6 e_S6 I8 e_I8
  have hM9 := hN
  have hN9 : S6.2.1 = 18 := by rw [e_S6]; show _ + 1 = 18; rw [hN]
  have hc9 : q_cl S6 := by rw [e_S6]; exact q_cl_new hc _ _ _
  have hE9 : Ex S S6 := by rw [e_S6]; exact hE.tr (Ex.new _ (by rw [hN]; decide) _ _ _)
  have hR9 : q_Rk 15 S S6 := by rw [e_S6]; exact hR.new hE.1 _ _ _
  have hK159 : S6.2.2.1 15 = 2 := by rw [e_S6]; exact (if_neg (by rw [hN]; decide)).trans hK15
  clear hc hE hR hK15  
  have hN := hN9
  have hc := hc9
  have hE := hE9
  have hR := hR9
  have hK15 := hK159
  clear hM9
  refine V_putF dX2_init_22 fl_RX2_19 rfl rfl rfl (by rw [hN]; decide) hK15 rfl (fun _ => rfl) (fun _ => rfl) ?_
  refine V_memS (fun S9 e_S9 => ?_)
  replace h := h S9 e_S9
  have hN9 : S9.2.1 = 18 := by rw [e_S9]; exact hN
  have hc9 : q_cl S9 := by rw [e_S9]; exact q_cl_put hc (by rw [hN]; decide)
  have hE9 : Ex S S9 := by rw [e_S9]; exact hE.tr (Ex.put _ _)
  have hR9 : q_Rk 15 S S9 := by rw [e_S9]; exact hR.put (Or.inl rfl)
  have hK159 : S9.2.2.1 15 = 2 := by rw [e_S9]; exact hK15
  clear hc hE hR hK15  
  have hN := hN9
  have hc := hc9
  have hE := hE9
  have hR := hR9
  have hK15 := hK159
  refine V_aload_n dX2_init_25 rfl rfl ?_
  refine V_bipush (v := 24) dX2_init_26 (by decide) ?_
  refine V_newI (z := 24) dX2_init_28 ac_int (by decide) (by decide) (by decide) (by rw [hN]; decide) hc (q_vbn hN rfl) (q_vbn hN rfl) (by decide) (by decide) (fun a11 => ?_)
  rw [hN]
  refine V_memS (fun S10 e_S10 => ?_)
  refine V_memI (fun I12 e_I12 => ?_)
  replace h := h a11 S10 e_S10 I12 e_I12
  have hM9 := hN
  have hN9 : S10.2.1 = 19 := by rw [e_S10]; show _ + 1 = 19; rw [hN]
  have hc9 : q_cl S10 := by rw [e_S10]; exact q_cl_new hc _ _ _
  have hE9 : Ex S S10 := by rw [e_S10]; exact hE.tr (Ex.new _ (by rw [hN]; decide) _ _ _)
  have hR9 : q_Rk 15 S S10 := by rw [e_S10]; exact hR.new hE.1 _ _ _
  have hK159 : S10.2.2.1 15 = 2 := by rw [e_S10]; exact (if_neg (by rw [hN]; decide)).trans hK15
  clear hc hE hR hK15  
  have hN := hN9
  have hc := hc9
  have hE := hE9
  have hR := hR9
  have hK15 := hK159
  clear hM9
  refine V_putF dX2_init_30 fl_RX2_22 rfl rfl rfl (by rw [hN]; decide) hK15 rfl (fun _ => rfl) (fun _ => rfl) ?_
  refine V_memS (fun S13 e_S13 => ?_)
  replace h := h S13 e_S13
  have hN9 : S13.2.1 = 19 := by rw [e_S13]; exact hN
  have hc9 : q_cl S13 := by rw [e_S13]; exact q_cl_put hc (by rw [hN]; decide)
  have hE9 : Ex S S13 := by rw [e_S13]; exact hE.tr (Ex.put _ _)
  have hR9 : q_Rk 15 S S13 := by rw [e_S13]; exact hR.put (Or.inl rfl)
  have hK159 : S13.2.2.1 15 = 2 := by rw [e_S13]; exact hK15
  clear hc hE hR hK15  
  have hN := hN9
  have hc := hc9
  have hE := hE9
  have hR := hR9
  have hK15 := hK159
  refine V_aload_n dX2_init_33 rfl rfl ?_
  refine V_bipush (v := 24) dX2_init_34 (by decide) ?_
  refine V_newI (z := 24) dX2_init_36 ac_int (by decide) (by decide) (by decide) (by rw [hN]; decide) hc (q_vbn hN rfl) (q_vbn hN rfl) (by decide) (by decide) (fun a15 => ?_)
  rw [hN]
  refine V_memS (fun S14 e_S14 => ?_)
  refine V_memI (fun I16 e_I16 => ?_)
  replace h := h a15 S14 e_S14 I16 e_I16
  have hM9 := hN
  have hN9 : S14.2.1 = 20 := by rw [e_S14]; show _ + 1 = 20; rw [hN]
  have hc9 : q_cl S14 := by rw [e_S14]; exact q_cl_new hc _ _ _
  have hE9 : Ex S S14 := by rw [e_S14]; exact hE.tr (Ex.new _ (by rw [hN]; decide) _ _ _)
  have hR9 : q_Rk 15 S S14 := by rw [e_S14]; exact hR.new hE.1 _ _ _
  have hK159 : S14.2.2.1 15 = 2 := by rw [e_S14]; exact (if_neg (by rw [hN]; decide)).trans hK15
  clear hc hE hR hK15  
  have hN := hN9
  have hc := hc9
  have hE := hE9
  have hR := hR9
  have hK15 := hK159
  clear hM9
  refine V_putF dX2_init_38 fl_RX2_25 rfl rfl rfl (by rw [hN]; decide) hK15 rfl (fun _ => rfl) (fun _ => rfl) ?_
  refine V_memS (fun S17 e_S17 => ?_)
  replace h := h S17 e_S17
  have hN9 : S17.2.1 = 20 := by rw [e_S17]; exact hN
  have hc9 : q_cl S17 := by rw [e_S17]; exact q_cl_put hc (by rw [hN]; decide)
  have hE9 : Ex S S17 := by rw [e_S17]; exact hE.tr (Ex.put _ _)
  have hR9 : q_Rk 15 S S17 := by rw [e_S17]; exact hR.put (Or.inl rfl)
  have hK159 : S17.2.2.1 15 = 2 := by rw [e_S17]; exact hK15
  clear hc hE hR hK15  
  have hN := hN9
  have hc := hc9
  have hE := hE9
  have hR := hR9
  have hK15 := hK159
  refine V_aload_n dX2_init_41 rfl rfl ?_
  refine V_bipush (v := 24) dX2_init_42 (by decide) ?_
  refine V_newI (z := 24) dX2_init_44 ac_int (by decide) (by decide) (by decide) (by rw [hN]; decide) hc (q_vbn hN rfl) (q_vbn hN rfl) (by decide) (by decide) (fun a19 => ?_)
  rw [hN]
  refine V_memS (fun S18 e_S18 => ?_)
  refine V_memI (fun I20 e_I20 => ?_)
  replace h := h a19 S18 e_S18 I20 e_I20
  have hM9 := hN
  have hN9 : S18.2.1 = 21 := by rw [e_S18]; show _ + 1 = 21; rw [hN]
  have hc9 : q_cl S18 := by rw [e_S18]; exact q_cl_new hc _ _ _
  have hE9 : Ex S S18 := by rw [e_S18]; exact hE.tr (Ex.new _ (by rw [hN]; decide) _ _ _)
  have hR9 : q_Rk 15 S S18 := by rw [e_S18]; exact hR.new hE.1 _ _ _
  have hK159 : S18.2.2.1 15 = 2 := by rw [e_S18]; exact (if_neg (by rw [hN]; decide)).trans hK15
  clear hc hE hR hK15  
  have hN := hN9
  have hc := hc9
  have hE := hE9
  have hR := hR9
  have hK15 := hK159
  clear hM9
  refine V_putF dX2_init_46 fl_RX2_28 rfl rfl rfl (by rw [hN]; decide) hK15 rfl (fun _ => rfl) (fun _ => rfl) ?_
  refine V_memS (fun S21 e_S21 => ?_)
  replace h := h S21 e_S21
  have hN9 : S21.2.1 = 21 := by rw [e_S21]; exact hN
  have hc9 : q_cl S21 := by rw [e_S21]; exact q_cl_put hc (by rw [hN]; decide)
  have hE9 : Ex S S21 := by rw [e_S21]; exact hE.tr (Ex.put _ _)
  have hR9 : q_Rk 15 S S21 := by rw [e_S21]; exact hR.put (Or.inl rfl)
  have hK159 : S21.2.2.1 15 = 2 := by rw [e_S21]; exact hK15
  clear hc hE hR hK15  
  have hN := hN9
  have hc := hc9
  have hE := hE9
  have hR := hR9
  have hK15 := hK159
  refine V_aload_n dX2_init_49 rfl rfl ?_
  refine V_bipush (v := 24) dX2_init_50 (by decide) ?_
  refine V_newI (z := 24) dX2_init_52 ac_int (by decide) (by decide) (by decide) (by rw [hN]; decide) hc (q_vbn hN rfl) (q_vbn hN rfl) (by decide) (by decide) (fun a23 => ?_)
  rw [hN]
  refine V_memS (fun S22 e_S22 => ?_)
  refine V_memI (fun I24 e_I24 => ?_)
  replace h := h a23 S22 e_S22 I24 e_I24
  have hM9 := hN
  have hN9 : S22.2.1 = 22 := by rw [e_S22]; show _ + 1 = 22; rw [hN]
  have hc9 : q_cl S22 := by rw [e_S22]; exact q_cl_new hc _ _ _
  have hE9 : Ex S S22 := by rw [e_S22]; exact hE.tr (Ex.new _ (by rw [hN]; decide) _ _ _)
  have hR9 : q_Rk 15 S S22 := by rw [e_S22]; exact hR.new hE.1 _ _ _
  have hK159 : S22.2.2.1 15 = 2 := by rw [e_S22]; exact (if_neg (by rw [hN]; decide)).trans hK15
  clear hc hE hR hK15  
  have hN := hN9
  have hc := hc9
  have hE := hE9
  have hR := hR9
  have hK15 := hK159
  clear hM9
  refine V_putF dX2_init_54 fl_RX2_31 rfl rfl rfl (by rw [hN]; decide) hK15 rfl (fun _ => rfl) (fun _ => rfl) ?_
  refine V_memS (fun S25 e_S25 => ?_)
  replace h := h S25 e_S25
  have hN9 : S25.2.1 = 22 := by rw [e_S25]; exact hN
  have hc9 : q_cl S25 := by rw [e_S25]; exact q_cl_put hc (by rw [hN]; decide)
  have hE9 : Ex S S25 := by rw [e_S25]; exact hE.tr (Ex.put _ _)
  have hR9 : q_Rk 15 S S25 := by rw [e_S25]; exact hR.put (Or.inl rfl)
  have hK159 : S25.2.2.1 15 = 2 := by rw [e_S25]; exact hK15
  clear hc hE hR hK15  
  have hN := hN9
  have hc := hc9
  have hE := hE9
  have hR := hR9
  have hK15 := hK159
  refine V_aload_n dX2_init_57 rfl rfl ?_
  refine V_bipush (v := 24) dX2_init_58 (by decide) ?_
  refine V_newI (z := 24) dX2_init_60 ac_int (by decide) (by decide) (by decide) (by rw [hN]; decide) hc (q_vbn hN rfl) (q_vbn hN rfl) (by decide) (by decide) (fun a27 => ?_)
  rw [hN]
  refine V_memS (fun S26 e_S26 => ?_)
  refine V_memI (fun I28 e_I28 => ?_)
  replace h := h a27 S26 e_S26 I28 e_I28
  have hM9 := hN
  have hN9 : S26.2.1 = 23 := by rw [e_S26]; show _ + 1 = 23; rw [hN]
  have hc9 : q_cl S26 := by rw [e_S26]; exact q_cl_new hc _ _ _
  have hE9 : Ex S S26 := by rw [e_S26]; exact hE.tr (Ex.new _ (by rw [hN]; decide) _ _ _)
  have hR9 : q_Rk 15 S S26 := by rw [e_S26]; exact hR.new hE.1 _ _ _
  have hK159 : S26.2.2.1 15 = 2 := by rw [e_S26]; exact (if_neg (by rw [hN]; decide)).trans hK15
  clear hc hE hR hK15  
  have hN := hN9
  have hc := hc9
  have hE := hE9
  have hR := hR9
  have hK15 := hK159
  clear hM9
  refine V_putF dX2_init_62 fl_RX2_34 rfl rfl rfl (by rw [hN]; decide) hK15 rfl (fun _ => rfl) (fun _ => rfl) ?_
  refine V_memS (fun S29 e_S29 => ?_)
  replace h := h S29 e_S29
  have hN9 : S29.2.1 = 23 := by rw [e_S29]; exact hN
  have hc9 : q_cl S29 := by rw [e_S29]; exact q_cl_put hc (by rw [hN]; decide)
  have hE9 : Ex S S29 := by rw [e_S29]; exact hE.tr (Ex.put _ _)
  have hR9 : q_Rk 15 S S29 := by rw [e_S29]; exact hR.put (Or.inl rfl)
  have hK159 : S29.2.2.1 15 = 2 := by rw [e_S29]; exact hK15
  clear hc hE hR hK15  
  have hN := hN9
  have hc := hc9
  have hE := hE9
  have hR := hR9
  have hK15 := hK159
  exact V_vret dX2_init_65 rfl (by decide) (by decide) ⟨rfl, hE, hc, by rw [hN, hN0], hR, h⟩
def w_X0_init_at23 (S : QS) (I : QI) (J : QJ) (post : QS → QI → QJ → Prop) : Prop := (∀ S1 : QS, S1 = q_sR S (q_u2 S.2.2.2.2 23 0 (some 1)) → (∀ S2 : QS, S2 = q_sR S1 (q_u2 S1.2.2.2.2 23 1 (some 15)) → (∀ a4 : Nat, ∀ S3 : QS, S3 = q_nS S2 a4 9 28800 → (∀ I5 : QI, I5 = q_rw I 24 (fun _ => 0) → (∀ S6 : QS, S6 = q_sR S3 (q_u2 S3.2.2.2.2 23 2 (some 24)) → (∀ a8 : Nat, ∀ S7 : QS, S7 = q_nS S6 a8 9 24 → (∀ I9 : QI, I9 = q_rw I5 25 (fun _ => 0) → (∀ S10 : QS, S10 = q_sR S7 (q_u2 S7.2.2.2.2 23 3 (some 25)) → (∀ a12 : Nat, ∀ S11 : QS, S11 = q_nS S10 a12 9 24 → (∀ I13 : QI, I13 = q_rw I9 26 (fun _ => 0) → (∀ S14 : QS, S14 = q_sR S11 (q_u2 S11.2.2.2.2 23 4 (some 26)) → (∀ a16 : Nat, ∀ S15 : QS, S15 = q_nS S14 a16 9 24 → (∀ I17 : QI, I17 = q_rw I13 27 (fun _ => 0) → (∀ S18 : QS, S18 = q_sR S15 (q_u2 S15.2.2.2.2 23 5 (some 27)) → (∀ a20 : Nat, ∀ S19 : QS, S19 = q_nS S18 a20 11 24 → (∀ I21 : QI, I21 = q_rw I17 28 (fun _ => 0) → (∀ S22 : QS, S22 = q_sR S19 (q_u2 S19.2.2.2.2 23 6 (some 28)) → (∀ a24 : Nat, ∀ S23 : QS, S23 = q_nS S22 a24 11 200 → (∀ I25 : QI, I25 = q_rw I21 29 (fun _ => 0) → (∀ S26 : QS, S26 = q_sR S23 (q_u2 S23.2.2.2.2 23 7 (some 29)) → (post S26 I25 J)))))))))))))))))))))
set_option maxRecDepth 100000 in
set_option maxHeartbeats 4000000 in
theorem s_X0_init_at23 {X : QX} {S : QS} {I : QI} {J : QJ} {post : QS → QI → QJ → Prop} (hN : S.2.1 = 24) (hc : q_cl S) (hK23 : S.2.2.1 23 = 0) (h : w_X0_init_at23 S I J post) : CX X mX0_init 1 6 29096 [.ref 23, .ref 1, .ref 15] S I J (q_Pk 23 S 6 post) := by
  have hN0 := hN
  have hE : Ex S S := Ex.rf
  have hR : q_Rk 23 S S := q_Rk.rf
  refine CX.of (lo := [(0, .ref 23), (1, .ref 1), (2, .ref 15)]) ok_mX0_init rfl (Nat.le_of_ble_eq_true rfl) rfl ?_
  replace h : (∀ S1 : QS, S1 = q_sR S (q_u2 S.2.2.2.2 23 0 (some 1)) → (∀ S2 : QS, S2 = q_sR S1 (q_u2 S1.2.2.2.2 23 1 (some 15)) → (∀ a4 : Nat, ∀ S3 : QS, S3 = q_nS S2 a4 9 28800 → (∀ I5 : QI, I5 = q_rw I 24 (fun _ => 0) → (∀ S6 : QS, S6 = q_sR S3 (q_u2 S3.2.2.2.2 23 2 (some 24)) → (∀ a8 : Nat, ∀ S7 : QS, S7 = q_nS S6 a8 9 24 → (∀ I9 : QI, I9 = q_rw I5 25 (fun _ => 0) → (∀ S10 : QS, S10 = q_sR S7 (q_u2 S7.2.2.2.2 23 3 (some 25)) → (∀ a12 : Nat, ∀ S11 : QS, S11 = q_nS S10 a12 9 24 → (∀ I13 : QI, I13 = q_rw I9 26 (fun _ => 0) → (∀ S14 : QS, S14 = q_sR S11 (q_u2 S11.2.2.2.2 23 4 (some 26)) → (∀ a16 : Nat, ∀ S15 : QS, S15 = q_nS S14 a16 9 24 → (∀ I17 : QI, I17 = q_rw I13 27 (fun _ => 0) → (∀ S18 : QS, S18 = q_sR S15 (q_u2 S15.2.2.2.2 23 5 (some 27)) → (∀ a20 : Nat, ∀ S19 : QS, S19 = q_nS S18 a20 11 24 → (∀ I21 : QI, I21 = q_rw I17 28 (fun _ => 0) → (∀ S22 : QS, S22 = q_sR S19 (q_u2 S19.2.2.2.2 23 6 (some 28)) → (∀ a24 : Nat, ∀ S23 : QS, S23 = q_nS S22 a24 11 200 → (∀ I25 : QI, I25 = q_rw I21 29 (fun _ => 0) → (∀ S26 : QS, S26 = q_sR S23 (q_u2 S23.2.2.2.2 23 7 (some 29)) → (post S26 I25 J))))))))))))))))))))) := h
  refine V_aload_n dX0_init_0 rfl rfl ?_
  refine V_objInit dX0_init_1 ml_RX0_3 ob_in ob_co (Nat.le_of_ble_eq_true rfl) ?_
  refine V_aload_n dX0_init_4 rfl rfl ?_
  refine V_aload_n dX0_init_5 rfl rfl ?_
  refine V_putF dX0_init_6 fl_RX0_9 rfl rfl rfl (by rw [hN]; decide) hK23 rfl (fun _ => rfl) (fun _ => rfl) ?_
  refine V_memS (fun S1 e_S1 => ?_)
  replace h := h S1 e_S1
  have hN9 : S1.2.1 = 24 := by rw [e_S1]; exact hN
  have hc9 : q_cl S1 := by rw [e_S1]; exact q_cl_put hc (by rw [hN]; decide)
  have hE9 : Ex S S1 := by rw [e_S1]; exact hE.tr (Ex.put _ _)
  have hR9 : q_Rk 23 S S1 := by rw [e_S1]; exact hR.put (Or.inl rfl)
  have hK239 : S1.2.2.1 23 = 0 := by rw [e_S1]; exact hK23
  clear hc hE hR hK23  
  have hN := hN9
  have hc := hc9
  have hE := hE9
  have hR := hR9
  have hK23 := hK239
  refine V_aload_n dX0_init_9 rfl rfl ?_
  refine V_aload_n dX0_init_10 rfl rfl ?_
  refine V_putF dX0_init_11 fl_RX0_15 rfl rfl rfl (by rw [hN]; decide) hK23 rfl (fun _ => rfl) (fun _ => rfl) ?_
  refine V_memS (fun S2 e_S2 => ?_)
  replace h := h S2 e_S2
  have hN9 : S2.2.1 = 24 := by rw [e_S2]; exact hN
  have hc9 : q_cl S2 := by rw [e_S2]; exact q_cl_put hc (by rw [hN]; decide)
  have hE9 : Ex S S2 := by rw [e_S2]; exact hE.tr (Ex.put _ _)
  have hR9 : q_Rk 23 S S2 := by rw [e_S2]; exact hR.put (Or.inl rfl)
  have hK239 : S2.2.2.1 23 = 0 := by rw [e_S2]; exact hK23
  clear hc hE hR hK23  
  have hN := hN9
  have hc := hc9
  have hE := hE9
  have hR := hR9
  have hK23 := hK239
  refine V_aload_n dX0_init_14 rfl rfl ?_
  refine V_sipush (v := 28800) dX0_init_15 (by decide) ?_
  refine V_newI (z := 28800) dX0_init_18 ac_int (by decide) (by decide) (by decide) (by rw [hN]; decide) hc (q_vbn hN rfl) (q_vbn hN rfl) (by decide) (by decide) (fun a4 => ?_)
  rw [hN]
  refine V_memS (fun S3 e_S3 => ?_)
  refine V_memI (fun I5 e_I5 => ?_)
  replace h := h a4 S3 e_S3 I5 e_I5
  have hM9 := hN
  have hN9 : S3.2.1 = 25 := by rw [e_S3]; show _ + 1 = 25; rw [hN]
  have hc9 : q_cl S3 := by rw [e_S3]; exact q_cl_new hc _ _ _
  have hE9 : Ex S S3 := by rw [e_S3]; exact hE.tr (Ex.new _ (by rw [hN]; decide) _ _ _)
  have hR9 : q_Rk 23 S S3 := by rw [e_S3]; exact hR.new hE.1 _ _ _
  have hK239 : S3.2.2.1 23 = 0 := by rw [e_S3]; exact (if_neg (by rw [hN]; decide)).trans hK23
  clear hc hE hR hK23  
  have hN := hN9
  have hc := hc9
  have hE := hE9
  have hR := hR9
  have hK23 := hK239
  clear hM9
  refine V_putF dX0_init_20 fl_RX0_19 rfl rfl rfl (by rw [hN]; decide) hK23 rfl (fun _ => rfl) (fun _ => rfl) ?_
  refine V_memS (fun S6 e_S6 => ?_)
  replace h := h S6 e_S6
  have hN9 : S6.2.1 = 25 := by rw [e_S6]; exact hN
  have hc9 : q_cl S6 := by rw [e_S6]; exact q_cl_put hc (by rw [hN]; decide)
  have hE9 : Ex S S6 := by rw [e_S6]; exact hE.tr (Ex.put _ _)
  have hR9 : q_Rk 23 S S6 := by rw [e_S6]; exact hR.put (Or.inl rfl)
  have hK239 : S6.2.2.1 23 = 0 := by rw [e_S6]; exact hK23
  clear hc hE hR hK23  
  have hN := hN9
  have hc := hc9
  have hE := hE9
  have hR := hR9
  have hK23 := hK239
  refine V_aload_n dX0_init_23 rfl rfl ?_
  refine V_bipush (v := 24) dX0_init_24 (by decide) ?_
  refine V_newI (z := 24) dX0_init_26 ac_int (by decide) (by decide) (by decide) (by rw [hN]; decide) hc (q_vbn hN rfl) (q_vbn hN rfl) (by decide) (by decide) (fun a8 => ?_)
  rw [hN]
  refine V_memS (fun S7 e_S7 => ?_)
  refine V_memI (fun I9 e_I9 => ?_)
  replace h := h a8 S7 e_S7 I9 e_I9
  have hM9 := hN
  have hN9 : S7.2.1 = 26 := by rw [e_S7]; show _ + 1 = 26; rw [hN]
  have hc9 : q_cl S7 := by rw [e_S7]; exact q_cl_new hc _ _ _
  have hE9 : Ex S S7 := by rw [e_S7]; exact hE.tr (Ex.new _ (by rw [hN]; decide) _ _ _)
  have hR9 : q_Rk 23 S S7 := by rw [e_S7]; exact hR.new hE.1 _ _ _
  have hK239 : S7.2.2.1 23 = 0 := by rw [e_S7]; exact (if_neg (by rw [hN]; decide)).trans hK23
  clear hc hE hR hK23  
  have hN := hN9
  have hc := hc9
  have hE := hE9
  have hR := hR9
  have hK23 := hK239
  clear hM9
  refine V_putF dX0_init_28 fl_RX0_23 rfl rfl rfl (by rw [hN]; decide) hK23 rfl (fun _ => rfl) (fun _ => rfl) ?_
  refine V_memS (fun S10 e_S10 => ?_)
  replace h := h S10 e_S10
  have hN9 : S10.2.1 = 26 := by rw [e_S10]; exact hN
  have hc9 : q_cl S10 := by rw [e_S10]; exact q_cl_put hc (by rw [hN]; decide)
  have hE9 : Ex S S10 := by rw [e_S10]; exact hE.tr (Ex.put _ _)
  have hR9 : q_Rk 23 S S10 := by rw [e_S10]; exact hR.put (Or.inl rfl)
  have hK239 : S10.2.2.1 23 = 0 := by rw [e_S10]; exact hK23
  clear hc hE hR hK23  
  have hN := hN9
  have hc := hc9
  have hE := hE9
  have hR := hR9
  have hK23 := hK239
  refine V_aload_n dX0_init_31 rfl rfl ?_
  refine V_bipush (v := 24) dX0_init_32 (by decide) ?_
  refine V_newI (z := 24) dX0_init_34 ac_int (by decide) (by decide) (by decide) (by rw [hN]; decide) hc (q_vbn hN rfl) (q_vbn hN rfl) (by decide) (by decide) (fun a12 => ?_)
  rw [hN]
  refine V_memS (fun S11 e_S11 => ?_)
  refine V_memI (fun I13 e_I13 => ?_)
  replace h := h a12 S11 e_S11 I13 e_I13
  have hM9 := hN
  have hN9 : S11.2.1 = 27 := by rw [e_S11]; show _ + 1 = 27; rw [hN]
  have hc9 : q_cl S11 := by rw [e_S11]; exact q_cl_new hc _ _ _
  have hE9 : Ex S S11 := by rw [e_S11]; exact hE.tr (Ex.new _ (by rw [hN]; decide) _ _ _)
  have hR9 : q_Rk 23 S S11 := by rw [e_S11]; exact hR.new hE.1 _ _ _
  have hK239 : S11.2.2.1 23 = 0 := by rw [e_S11]; exact (if_neg (by rw [hN]; decide)).trans hK23
  clear hc hE hR hK23  
  have hN := hN9
  have hc := hc9
  have hE := hE9
  have hR := hR9
  have hK23 := hK239
  clear hM9
  refine V_putF dX0_init_36 fl_RX0_26 rfl rfl rfl (by rw [hN]; decide) hK23 rfl (fun _ => rfl) (fun _ => rfl) ?_
  refine V_memS (fun S14 e_S14 => ?_)
  replace h := h S14 e_S14
  have hN9 : S14.2.1 = 27 := by rw [e_S14]; exact hN
  have hc9 : q_cl S14 := by rw [e_S14]; exact q_cl_put hc (by rw [hN]; decide)
  have hE9 : Ex S S14 := by rw [e_S14]; exact hE.tr (Ex.put _ _)
  have hR9 : q_Rk 23 S S14 := by rw [e_S14]; exact hR.put (Or.inl rfl)
  have hK239 : S14.2.2.1 23 = 0 := by rw [e_S14]; exact hK23
  clear hc hE hR hK23  
  have hN := hN9
  have hc := hc9
  have hE := hE9
  have hR := hR9
  have hK23 := hK239
  refine V_aload_n dX0_init_39 rfl rfl ?_
  refine V_bipush (v := 24) dX0_init_40 (by decide) ?_
  refine V_newI (z := 24) dX0_init_42 ac_int (by decide) (by decide) (by decide) (by rw [hN]; decide) hc (q_vbn hN rfl) (q_vbn hN rfl) (by decide) (by decide) (fun a16 => ?_)
  rw [hN]
  refine V_memS (fun S15 e_S15 => ?_)
  refine V_memI (fun I17 e_I17 => ?_)
  replace h := h a16 S15 e_S15 I17 e_I17
  have hM9 := hN
  have hN9 : S15.2.1 = 28 := by rw [e_S15]; show _ + 1 = 28; rw [hN]
  have hc9 : q_cl S15 := by rw [e_S15]; exact q_cl_new hc _ _ _
  have hE9 : Ex S S15 := by rw [e_S15]; exact hE.tr (Ex.new _ (by rw [hN]; decide) _ _ _)
  have hR9 : q_Rk 23 S S15 := by rw [e_S15]; exact hR.new hE.1 _ _ _
  have hK239 : S15.2.2.1 23 = 0 := by rw [e_S15]; exact (if_neg (by rw [hN]; decide)).trans hK23
  clear hc hE hR hK23  
  have hN := hN9
  have hc := hc9
  have hE := hE9
  have hR := hR9
  have hK23 := hK239
  clear hM9
  refine V_putF dX0_init_44 fl_RX0_29 rfl rfl rfl (by rw [hN]; decide) hK23 rfl (fun _ => rfl) (fun _ => rfl) ?_
  refine V_memS (fun S18 e_S18 => ?_)
  replace h := h S18 e_S18
  have hN9 : S18.2.1 = 28 := by rw [e_S18]; exact hN
  have hc9 : q_cl S18 := by rw [e_S18]; exact q_cl_put hc (by rw [hN]; decide)
  have hE9 : Ex S S18 := by rw [e_S18]; exact hE.tr (Ex.put _ _)
  have hR9 : q_Rk 23 S S18 := by rw [e_S18]; exact hR.put (Or.inl rfl)
  have hK239 : S18.2.2.1 23 = 0 := by rw [e_S18]; exact hK23
  clear hc hE hR hK23  
  have hN := hN9
  have hc := hc9
  have hE := hE9
  have hR := hR9
  have hK23 := hK239
  refine V_aload_n dX0_init_47 rfl rfl ?_
  refine V_bipush (v := 24) dX0_init_48 (by decide) ?_
  refine V_newZ (z := 24) dX0_init_50 ac_boolean (by decide) (by decide) (by decide) (by rw [hN]; decide) hc (q_vbn hN rfl) (q_vbn hN rfl) (by decide) (by decide) (fun a20 => ?_)
  rw [hN]
  refine V_memS (fun S19 e_S19 => ?_)
  refine V_memI (fun I21 e_I21 => ?_)
  replace h := h a20 S19 e_S19 I21 e_I21
  have hM9 := hN
  have hN9 : S19.2.1 = 29 := by rw [e_S19]; show _ + 1 = 29; rw [hN]
  have hc9 : q_cl S19 := by rw [e_S19]; exact q_cl_new hc _ _ _
  have hE9 : Ex S S19 := by rw [e_S19]; exact hE.tr (Ex.new _ (by rw [hN]; decide) _ _ _)
  have hR9 : q_Rk 23 S S19 := by rw [e_S19]; exact hR.new hE.1 _ _ _
  have hK239 : S19.2.2.1 23 = 0 := by rw [e_S19]; exact (if_neg (by rw [hN]; decide)).trans hK23
  clear hc hE hR hK23  
  have hN := hN9
  have hc := hc9
  have hE := hE9
  have hR := hR9
  have hK23 := hK239
  clear hM9
  refine V_putF dX0_init_52 fl_RX0_32 rfl rfl rfl (by rw [hN]; decide) hK23 rfl (fun _ => rfl) (fun _ => rfl) ?_
  refine V_memS (fun S22 e_S22 => ?_)
  replace h := h S22 e_S22
  have hN9 : S22.2.1 = 29 := by rw [e_S22]; exact hN
  have hc9 : q_cl S22 := by rw [e_S22]; exact q_cl_put hc (by rw [hN]; decide)
  have hE9 : Ex S S22 := by rw [e_S22]; exact hE.tr (Ex.put _ _)
  have hR9 : q_Rk 23 S S22 := by rw [e_S22]; exact hR.put (Or.inl rfl)
  have hK239 : S22.2.2.1 23 = 0 := by rw [e_S22]; exact hK23
  clear hc hE hR hK23  
  have hN := hN9
  have hc := hc9
  have hE := hE9
  have hR := hR9
  have hK23 := hK239
  refine V_aload_n dX0_init_55 rfl rfl ?_
  refine V_sipush (v := 200) dX0_init_56 (by decide) ?_
  refine V_newZ (z := 200) dX0_init_59 ac_boolean (by decide) (by decide) (by decide) (by rw [hN]; decide) hc (q_vbn hN rfl) (q_vbn hN rfl) (by decide) (by decide) (fun a24 => ?_)
  rw [hN]
  refine V_memS (fun S23 e_S23 => ?_)
  refine V_memI (fun I25 e_I25 => ?_)
  replace h := h a24 S23 e_S23 I25 e_I25
  have hM9 := hN
  have hN9 : S23.2.1 = 30 := by rw [e_S23]; show _ + 1 = 30; rw [hN]
  have hc9 : q_cl S23 := by rw [e_S23]; exact q_cl_new hc _ _ _
  have hE9 : Ex S S23 := by rw [e_S23]; exact hE.tr (Ex.new _ (by rw [hN]; decide) _ _ _)
  have hR9 : q_Rk 23 S S23 := by rw [e_S23]; exact hR.new hE.1 _ _ _
  have hK239 : S23.2.2.1 23 = 0 := by rw [e_S23]; exact (if_neg (by rw [hN]; decide)).trans hK23
  clear hc hE hR hK23  
  have hN := hN9
  have hc := hc9
  have hE := hE9
  have hR := hR9
  have hK23 := hK239
  clear hM9
  refine V_putF dX0_init_61 fl_RX0_36 rfl rfl rfl (by rw [hN]; decide) hK23 rfl (fun _ => rfl) (fun _ => rfl) ?_
  refine V_memS (fun S26 e_S26 => ?_)
  replace h := h S26 e_S26
  have hN9 : S26.2.1 = 30 := by rw [e_S26]; exact hN
  have hc9 : q_cl S26 := by rw [e_S26]; exact q_cl_put hc (by rw [hN]; decide)
  have hE9 : Ex S S26 := by rw [e_S26]; exact hE.tr (Ex.put _ _)
  have hR9 : q_Rk 23 S S26 := by rw [e_S26]; exact hR.put (Or.inl rfl)
  have hK239 : S26.2.2.1 23 = 0 := by rw [e_S26]; exact hK23
  clear hc hE hR hK23  
  have hN := hN9
  have hc := hc9
  have hE := hE9
  have hR := hR9
  have hK23 := hK239
  exact V_vret dX0_init_64 rfl (by decide) (by decide) ⟨rfl, hE, hc, by rw [hN, hN0], hR, h⟩
def w_X3_init_at30 (S : QS) (I : QI) (J : QJ) (post : QS → QI → QJ → Prop) : Prop := (∀ S1 : QS, S1 = q_sR S (q_u2 S.2.2.2.2 30 0 (some 15)) → (∀ a3 : Nat, ∀ S2 : QS, S2 = q_nS S1 a3 9 600 → (∀ I4 : QI, I4 = q_rw I 31 (fun _ => 0) → (∀ S5 : QS, S5 = q_sR S2 (q_u2 S2.2.2.2.2 30 1 (some 31)) → (∀ a7 : Nat, ∀ S6 : QS, S6 = q_nS S5 a7 9 25 → (∀ I8 : QI, I8 = q_rw I4 32 (fun _ => 0) → (∀ S9 : QS, S9 = q_sR S6 (q_u2 S6.2.2.2.2 30 2 (some 32)) → (∀ a11 : Nat, ∀ S10 : QS, S10 = q_nS S9 a11 9 256 → (∀ I12 : QI, I12 = q_rw I8 33 (fun _ => 0) → (∀ S13 : QS, S13 = q_sR S10 (q_u2 S10.2.2.2.2 30 3 (some 33)) → (∀ a15 : Nat, ∀ S14 : QS, S14 = q_nS S13 a15 9 256 → (∀ I16 : QI, I16 = q_rw I12 34 (fun _ => 0) → (∀ S17 : QS, S17 = q_sR S14 (q_u2 S14.2.2.2.2 30 4 (some 34)) → (∀ a19 : Nat, ∀ S18 : QS, S18 = q_nS S17 a19 9 6144 → (∀ I20 : QI, I20 = q_rw I16 35 (fun _ => 0) → (∀ S21 : QS, S21 = q_sR S18 (q_u2 S18.2.2.2.2 30 5 (some 35)) → (∀ a23 : Nat, ∀ S22 : QS, S22 = q_nS S21 a23 9 256 → (∀ I24 : QI, I24 = q_rw I20 36 (fun _ => 0) → (∀ S25 : QS, S25 = q_sR S22 (q_u2 S22.2.2.2.2 30 6 (some 36)) → (post S25 I24 J))))))))))))))))))))
set_option maxRecDepth 100000 in
set_option maxHeartbeats 4000000 in
theorem s_X3_init_at30 {X : QX} {S : QS} {I : QI} {J : QJ} {post : QS → QI → QJ → Prop} (hN : S.2.1 = 31) (hc : q_cl S) (hK30 : S.2.2.1 30 = 3) (h : w_X3_init_at30 S I J post) : CX X mX3_init 1 6 7537 [.ref 30, .ref 15] S I J (q_Pk 30 S 6 post) := by
  have hN0 := hN
  have hE : Ex S S := Ex.rf
  have hR : q_Rk 30 S S := q_Rk.rf
  refine CX.of (lo := [(0, .ref 30), (1, .ref 15)]) ok_mX3_init rfl (Nat.le_of_ble_eq_true rfl) rfl ?_
  replace h : (∀ S1 : QS, S1 = q_sR S (q_u2 S.2.2.2.2 30 0 (some 15)) → (∀ a3 : Nat, ∀ S2 : QS, S2 = q_nS S1 a3 9 600 → (∀ I4 : QI, I4 = q_rw I 31 (fun _ => 0) → (∀ S5 : QS, S5 = q_sR S2 (q_u2 S2.2.2.2.2 30 1 (some 31)) → (∀ a7 : Nat, ∀ S6 : QS, S6 = q_nS S5 a7 9 25 → (∀ I8 : QI, I8 = q_rw I4 32 (fun _ => 0) → (∀ S9 : QS, S9 = q_sR S6 (q_u2 S6.2.2.2.2 30 2 (some 32)) → (∀ a11 : Nat, ∀ S10 : QS, S10 = q_nS S9 a11 9 256 → (∀ I12 : QI, I12 = q_rw I8 33 (fun _ => 0) → (∀ S13 : QS, S13 = q_sR S10 (q_u2 S10.2.2.2.2 30 3 (some 33)) → (∀ a15 : Nat, ∀ S14 : QS, S14 = q_nS S13 a15 9 256 → (∀ I16 : QI, I16 = q_rw I12 34 (fun _ => 0) → (∀ S17 : QS, S17 = q_sR S14 (q_u2 S14.2.2.2.2 30 4 (some 34)) → (∀ a19 : Nat, ∀ S18 : QS, S18 = q_nS S17 a19 9 6144 → (∀ I20 : QI, I20 = q_rw I16 35 (fun _ => 0) → (∀ S21 : QS, S21 = q_sR S18 (q_u2 S18.2.2.2.2 30 5 (some 35)) → (∀ a23 : Nat, ∀ S22 : QS, S22 = q_nS S21 a23 9 256 → (∀ I24 : QI, I24 = q_rw I20 36 (fun _ => 0) → (∀ S25 : QS, S25 = q_sR S22 (q_u2 S22.2.2.2.2 30 6 (some 36)) → (post S25 I24 J)))))))))))))))))))) := h
  refine V_aload_n dX3_init_0 rfl rfl ?_
  refine V_objInit dX3_init_1 ml_RX3_5 ob_in ob_co (Nat.le_of_ble_eq_true rfl) ?_
  refine V_aload_n dX3_init_4 rfl rfl ?_
  refine V_aload_n dX3_init_5 rfl rfl ?_
  refine V_putF dX3_init_6 fl_RX3_11 rfl rfl rfl (by rw [hN]; decide) hK30 rfl (fun _ => rfl) (fun _ => rfl) ?_
  refine V_memS (fun S1 e_S1 => ?_)
  replace h := h S1 e_S1
  have hN9 : S1.2.1 = 31 := by rw [e_S1]; exact hN
  have hc9 : q_cl S1 := by rw [e_S1]; exact q_cl_put hc (by rw [hN]; decide)
  have hE9 : Ex S S1 := by rw [e_S1]; exact hE.tr (Ex.put _ _)
  have hR9 : q_Rk 30 S S1 := by rw [e_S1]; exact hR.put (Or.inl rfl)
  have hK309 : S1.2.2.1 30 = 3 := by rw [e_S1]; exact hK30
  clear hc hE hR hK30  
  have hN := hN9
  have hc := hc9
  have hE := hE9
  have hR := hR9
  have hK30 := hK309
  refine V_aload_n dX3_init_9 rfl rfl ?_
  refine V_sipush (v := 600) dX3_init_10 (by decide) ?_
  refine V_newI (z := 600) dX3_init_13 ac_int (by decide) (by decide) (by decide) (by rw [hN]; decide) hc (q_vbn hN rfl) (q_vbn hN rfl) (by decide) (by decide) (fun a3 => ?_)
  rw [hN]
  refine V_memS (fun S2 e_S2 => ?_)
  refine V_memI (fun I4 e_I4 => ?_)
  replace h := h a3 S2 e_S2 I4 e_I4
  have hM9 := hN
  have hN9 : S2.2.1 = 32 := by rw [e_S2]; show _ + 1 = 32; rw [hN]
  have hc9 : q_cl S2 := by rw [e_S2]; exact q_cl_new hc _ _ _
  have hE9 : Ex S S2 := by rw [e_S2]; exact hE.tr (Ex.new _ (by rw [hN]; decide) _ _ _)
  have hR9 : q_Rk 30 S S2 := by rw [e_S2]; exact hR.new hE.1 _ _ _
  have hK309 : S2.2.2.1 30 = 3 := by rw [e_S2]; exact (if_neg (by rw [hN]; decide)).trans hK30
  clear hc hE hR hK30  
  have hN := hN9
  have hc := hc9
  have hE := hE9
  have hR := hR9
  have hK30 := hK309
  clear hM9
  refine V_putF dX3_init_15 fl_RX3_15 rfl rfl rfl (by rw [hN]; decide) hK30 rfl (fun _ => rfl) (fun _ => rfl) ?_
  refine V_memS (fun S5 e_S5 => ?_)
  replace h := h S5 e_S5
  have hN9 : S5.2.1 = 32 := by rw [e_S5]; exact hN
  have hc9 : q_cl S5 := by rw [e_S5]; exact q_cl_put hc (by rw [hN]; decide)
  have hE9 : Ex S S5 := by rw [e_S5]; exact hE.tr (Ex.put _ _)
  have hR9 : q_Rk 30 S S5 := by rw [e_S5]; exact hR.put (Or.inl rfl)
  have hK309 : S5.2.2.1 30 = 3 := by rw [e_S5]; exact hK30
  clear hc hE hR hK30  
  have hN := hN9
  have hc := hc9
  have hE := hE9
  have hR := hR9
  have hK30 := hK309
  refine V_aload_n dX3_init_18 rfl rfl ?_
  refine V_bipush (v := 25) dX3_init_19 (by decide) ?_
  refine V_newI (z := 25) dX3_init_21 ac_int (by decide) (by decide) (by decide) (by rw [hN]; decide) hc (q_vbn hN rfl) (q_vbn hN rfl) (by decide) (by decide) (fun a7 => ?_)
  rw [hN]
  refine V_memS (fun S6 e_S6 => ?_)
  refine V_memI (fun I8 e_I8 => ?_)
  replace h := h a7 S6 e_S6 I8 e_I8
  have hM9 := hN
  have hN9 : S6.2.1 = 33 := by rw [e_S6]; show _ + 1 = 33; rw [hN]
  have hc9 : q_cl S6 := by rw [e_S6]; exact q_cl_new hc _ _ _
  have hE9 : Ex S S6 := by rw [e_S6]; exact hE.tr (Ex.new _ (by rw [hN]; decide) _ _ _)
  have hR9 : q_Rk 30 S S6 := by rw [e_S6]; exact hR.new hE.1 _ _ _
  have hK309 : S6.2.2.1 30 = 3 := by rw [e_S6]; exact (if_neg (by rw [hN]; decide)).trans hK30
  clear hc hE hR hK30  
  have hN := hN9
  have hc := hc9
  have hE := hE9
  have hR := hR9
  have hK30 := hK309
  clear hM9
  refine V_putF dX3_init_23 fl_RX3_19 rfl rfl rfl (by rw [hN]; decide) hK30 rfl (fun _ => rfl) (fun _ => rfl) ?_
  refine V_memS (fun S9 e_S9 => ?_)
  replace h := h S9 e_S9
  have hN9 : S9.2.1 = 33 := by rw [e_S9]; exact hN
  have hc9 : q_cl S9 := by rw [e_S9]; exact q_cl_put hc (by rw [hN]; decide)
  have hE9 : Ex S S9 := by rw [e_S9]; exact hE.tr (Ex.put _ _)
  have hR9 : q_Rk 30 S S9 := by rw [e_S9]; exact hR.put (Or.inl rfl)
  have hK309 : S9.2.2.1 30 = 3 := by rw [e_S9]; exact hK30
  clear hc hE hR hK30  
  have hN := hN9
  have hc := hc9
  have hE := hE9
  have hR := hR9
  have hK30 := hK309
  refine V_aload_n dX3_init_26 rfl rfl ?_
  refine V_sipush (v := 256) dX3_init_27 (by decide) ?_
  refine V_newI (z := 256) dX3_init_30 ac_int (by decide) (by decide) (by decide) (by rw [hN]; decide) hc (q_vbn hN rfl) (q_vbn hN rfl) (by decide) (by decide) (fun a11 => ?_)
  rw [hN]
  refine V_memS (fun S10 e_S10 => ?_)
  refine V_memI (fun I12 e_I12 => ?_)
  replace h := h a11 S10 e_S10 I12 e_I12
  have hM9 := hN
  have hN9 : S10.2.1 = 34 := by rw [e_S10]; show _ + 1 = 34; rw [hN]
  have hc9 : q_cl S10 := by rw [e_S10]; exact q_cl_new hc _ _ _
  have hE9 : Ex S S10 := by rw [e_S10]; exact hE.tr (Ex.new _ (by rw [hN]; decide) _ _ _)
  have hR9 : q_Rk 30 S S10 := by rw [e_S10]; exact hR.new hE.1 _ _ _
  have hK309 : S10.2.2.1 30 = 3 := by rw [e_S10]; exact (if_neg (by rw [hN]; decide)).trans hK30
  clear hc hE hR hK30  
  have hN := hN9
  have hc := hc9
  have hE := hE9
  have hR := hR9
  have hK30 := hK309
  clear hM9
  refine V_putF dX3_init_32 fl_RX3_22 rfl rfl rfl (by rw [hN]; decide) hK30 rfl (fun _ => rfl) (fun _ => rfl) ?_
  refine V_memS (fun S13 e_S13 => ?_)
  replace h := h S13 e_S13
  have hN9 : S13.2.1 = 34 := by rw [e_S13]; exact hN
  have hc9 : q_cl S13 := by rw [e_S13]; exact q_cl_put hc (by rw [hN]; decide)
  have hE9 : Ex S S13 := by rw [e_S13]; exact hE.tr (Ex.put _ _)
  have hR9 : q_Rk 30 S S13 := by rw [e_S13]; exact hR.put (Or.inl rfl)
  have hK309 : S13.2.2.1 30 = 3 := by rw [e_S13]; exact hK30
  clear hc hE hR hK30  
  have hN := hN9
  have hc := hc9
  have hE := hE9
  have hR := hR9
  have hK30 := hK309
  refine V_aload_n dX3_init_35 rfl rfl ?_
  refine V_sipush (v := 256) dX3_init_36 (by decide) ?_
  refine V_newI (z := 256) dX3_init_39 ac_int (by decide) (by decide) (by decide) (by rw [hN]; decide) hc (q_vbn hN rfl) (q_vbn hN rfl) (by decide) (by decide) (fun a15 => ?_)
  rw [hN]
  refine V_memS (fun S14 e_S14 => ?_)
  refine V_memI (fun I16 e_I16 => ?_)
  replace h := h a15 S14 e_S14 I16 e_I16
  have hM9 := hN
  have hN9 : S14.2.1 = 35 := by rw [e_S14]; show _ + 1 = 35; rw [hN]
  have hc9 : q_cl S14 := by rw [e_S14]; exact q_cl_new hc _ _ _
  have hE9 : Ex S S14 := by rw [e_S14]; exact hE.tr (Ex.new _ (by rw [hN]; decide) _ _ _)
  have hR9 : q_Rk 30 S S14 := by rw [e_S14]; exact hR.new hE.1 _ _ _
  have hK309 : S14.2.2.1 30 = 3 := by rw [e_S14]; exact (if_neg (by rw [hN]; decide)).trans hK30
  clear hc hE hR hK30  
  have hN := hN9
  have hc := hc9
  have hE := hE9
  have hR := hR9
  have hK30 := hK309
  clear hM9
  refine V_putF dX3_init_41 fl_RX3_25 rfl rfl rfl (by rw [hN]; decide) hK30 rfl (fun _ => rfl) (fun _ => rfl) ?_
  refine V_memS (fun S17 e_S17 => ?_)
  replace h := h S17 e_S17
  have hN9 : S17.2.1 = 35 := by rw [e_S17]; exact hN
  have hc9 : q_cl S17 := by rw [e_S17]; exact q_cl_put hc (by rw [hN]; decide)
  have hE9 : Ex S S17 := by rw [e_S17]; exact hE.tr (Ex.put _ _)
  have hR9 : q_Rk 30 S S17 := by rw [e_S17]; exact hR.put (Or.inl rfl)
  have hK309 : S17.2.2.1 30 = 3 := by rw [e_S17]; exact hK30
  clear hc hE hR hK30  
  have hN := hN9
  have hc := hc9
  have hE := hE9
  have hR := hR9
  have hK30 := hK309
  refine V_aload_n dX3_init_44 rfl rfl ?_
  refine V_sipush (v := 6144) dX3_init_45 (by decide) ?_
  refine V_newI (z := 6144) dX3_init_48 ac_int (by decide) (by decide) (by decide) (by rw [hN]; decide) hc (q_vbn hN rfl) (q_vbn hN rfl) (by decide) (by decide) (fun a19 => ?_)
  rw [hN]
  refine V_memS (fun S18 e_S18 => ?_)
  refine V_memI (fun I20 e_I20 => ?_)
  replace h := h a19 S18 e_S18 I20 e_I20
  have hM9 := hN
  have hN9 : S18.2.1 = 36 := by rw [e_S18]; show _ + 1 = 36; rw [hN]
  have hc9 : q_cl S18 := by rw [e_S18]; exact q_cl_new hc _ _ _
  have hE9 : Ex S S18 := by rw [e_S18]; exact hE.tr (Ex.new _ (by rw [hN]; decide) _ _ _)
  have hR9 : q_Rk 30 S S18 := by rw [e_S18]; exact hR.new hE.1 _ _ _
  have hK309 : S18.2.2.1 30 = 3 := by rw [e_S18]; exact (if_neg (by rw [hN]; decide)).trans hK30
  clear hc hE hR hK30  
  have hN := hN9
  have hc := hc9
  have hE := hE9
  have hR := hR9
  have hK30 := hK309
  clear hM9
  refine V_putF dX3_init_50 fl_RX3_28 rfl rfl rfl (by rw [hN]; decide) hK30 rfl (fun _ => rfl) (fun _ => rfl) ?_
  refine V_memS (fun S21 e_S21 => ?_)
  replace h := h S21 e_S21
  have hN9 : S21.2.1 = 36 := by rw [e_S21]; exact hN
  have hc9 : q_cl S21 := by rw [e_S21]; exact q_cl_put hc (by rw [hN]; decide)
  have hE9 : Ex S S21 := by rw [e_S21]; exact hE.tr (Ex.put _ _)
  have hR9 : q_Rk 30 S S21 := by rw [e_S21]; exact hR.put (Or.inl rfl)
  have hK309 : S21.2.2.1 30 = 3 := by rw [e_S21]; exact hK30
  clear hc hE hR hK30  
  have hN := hN9
  have hc := hc9
  have hE := hE9
  have hR := hR9
  have hK30 := hK309
  refine V_aload_n dX3_init_53 rfl rfl ?_
  refine V_sipush (v := 256) dX3_init_54 (by decide) ?_
  refine V_newI (z := 256) dX3_init_57 ac_int (by decide) (by decide) (by decide) (by rw [hN]; decide) hc (q_vbn hN rfl) (q_vbn hN rfl) (by decide) (by decide) (fun a23 => ?_)
  rw [hN]
  refine V_memS (fun S22 e_S22 => ?_)
  refine V_memI (fun I24 e_I24 => ?_)
  replace h := h a23 S22 e_S22 I24 e_I24
  have hM9 := hN
  have hN9 : S22.2.1 = 37 := by rw [e_S22]; show _ + 1 = 37; rw [hN]
  have hc9 : q_cl S22 := by rw [e_S22]; exact q_cl_new hc _ _ _
  have hE9 : Ex S S22 := by rw [e_S22]; exact hE.tr (Ex.new _ (by rw [hN]; decide) _ _ _)
  have hR9 : q_Rk 30 S S22 := by rw [e_S22]; exact hR.new hE.1 _ _ _
  have hK309 : S22.2.2.1 30 = 3 := by rw [e_S22]; exact (if_neg (by rw [hN]; decide)).trans hK30
  clear hc hE hR hK30  
  have hN := hN9
  have hc := hc9
  have hE := hE9
  have hR := hR9
  have hK30 := hK309
  clear hM9
  refine V_putF dX3_init_59 fl_RX3_31 rfl rfl rfl (by rw [hN]; decide) hK30 rfl (fun _ => rfl) (fun _ => rfl) ?_
  refine V_memS (fun S25 e_S25 => ?_)
  replace h := h S25 e_S25
  have hN9 : S25.2.1 = 37 := by rw [e_S25]; exact hN
  have hc9 : q_cl S25 := by rw [e_S25]; exact q_cl_put hc (by rw [hN]; decide)
  have hE9 : Ex S S25 := by rw [e_S25]; exact hE.tr (Ex.put _ _)
  have hR9 : q_Rk 30 S S25 := by rw [e_S25]; exact hR.put (Or.inl rfl)
  have hK309 : S25.2.2.1 30 = 3 := by rw [e_S25]; exact hK30
  clear hc hE hR hK30  
  have hN := hN9
  have hc := hc9
  have hE := hE9
  have hR := hR9
  have hK30 := hK309
  exact V_vret dX3_init_62 rfl (by decide) (by decide) ⟨rfl, hE, hc, by rw [hN, hN0], hR, h⟩
def w_X1_init_at37 (S : QS) (I : QI) (J : QJ) (post : QS → QI → QJ → Prop) : Prop := (∀ S1 : QS, S1 = q_sR S (q_u2 S.2.2.2.2 37 0 (some 1)) → (∀ a3 : Nat, ∀ S2 : QS, S2 = q_nS S1 a3 9 6 → (∀ I4 : QI, I4 = q_rw I 38 (fun _ => 0) → (∀ S5 : QS, S5 = q_sR S2 (q_u2 S2.2.2.2.2 37 1 (some 38)) → (∀ a7 : Nat, ∀ S6 : QS, S6 = q_nS S5 a7 9 6 → (∀ I8 : QI, I8 = q_rw I4 39 (fun _ => 0) → (∀ S9 : QS, S9 = q_sR S6 (q_u2 S6.2.2.2.2 37 2 (some 39)) → (∀ a11 : Nat, ∀ S10 : QS, S10 = q_nS S9 a11 9 6 → (∀ I12 : QI, I12 = q_rw I8 40 (fun _ => 0) → (∀ S13 : QS, S13 = q_sR S10 (q_u2 S10.2.2.2.2 37 3 (some 40)) → (∀ a15 : Nat, ∀ S14 : QS, S14 = q_nS S13 a15 9 6 → (∀ I16 : QI, I16 = q_rw I12 41 (fun _ => 0) → (∀ S17 : QS, S17 = q_sR S14 (q_u2 S14.2.2.2.2 37 4 (some 41)) → (∀ a19 : Nat, ∀ S18 : QS, S18 = q_nS S17 a19 9 4 → (∀ I20 : QI, I20 = q_rw I16 42 (fun _ => 0) → (∀ S21 : QS, S21 = q_sR S18 (q_u2 S18.2.2.2.2 37 5 (some 42)) → (∀ a23 : Nat, ∀ S22 : QS, S22 = q_nS S21 a23 9 6 → (∀ I24 : QI, I24 = q_rw I20 43 (fun _ => 0) → (∀ S25 : QS, S25 = q_sR S22 (q_u2 S22.2.2.2.2 37 6 (some 43)) → (∀ a27 : Nat, ∀ S26 : QS, S26 = q_nS S25 a27 9 16 → (∀ I28 : QI, I28 = q_rw I24 44 (fun _ => 0) → (∀ S29 : QS, S29 = q_sR S26 (q_u2 S26.2.2.2.2 37 7 (some 44)) → (∀ a31 : Nat, ∀ S30 : QS, S30 = q_nS S29 a31 9 16 → (∀ I32 : QI, I32 = q_rw I28 45 (fun _ => 0) → (∀ S33 : QS, S33 = q_sR S30 (q_u2 S30.2.2.2.2 37 8 (some 45)) → (post S33 I32 J))))))))))))))))))))))))))
set_option maxRecDepth 100000 in
set_option maxHeartbeats 4000000 in
theorem s_X1_init_at37 {X : QX} {S : QS} {I : QI} {J : QJ} {post : QS → QI → QJ → Prop} (hN : S.2.1 = 38) (hc : q_cl S) (hK37 : S.2.2.1 37 = 1) (h : w_X1_init_at37 S I J post) : CX X mX1_init 1 8 66 [.ref 37, .ref 1] S I J (q_Pk 37 S 8 post) := by
  have hN0 := hN
  have hE : Ex S S := Ex.rf
  have hR : q_Rk 37 S S := q_Rk.rf
  refine CX.of (lo := [(0, .ref 37), (1, .ref 1)]) ok_mX1_init rfl (Nat.le_of_ble_eq_true rfl) rfl ?_
  replace h : (∀ S1 : QS, S1 = q_sR S (q_u2 S.2.2.2.2 37 0 (some 1)) → (∀ a3 : Nat, ∀ S2 : QS, S2 = q_nS S1 a3 9 6 → (∀ I4 : QI, I4 = q_rw I 38 (fun _ => 0) → (∀ S5 : QS, S5 = q_sR S2 (q_u2 S2.2.2.2.2 37 1 (some 38)) → (∀ a7 : Nat, ∀ S6 : QS, S6 = q_nS S5 a7 9 6 → (∀ I8 : QI, I8 = q_rw I4 39 (fun _ => 0) → (∀ S9 : QS, S9 = q_sR S6 (q_u2 S6.2.2.2.2 37 2 (some 39)) → (∀ a11 : Nat, ∀ S10 : QS, S10 = q_nS S9 a11 9 6 → (∀ I12 : QI, I12 = q_rw I8 40 (fun _ => 0) → (∀ S13 : QS, S13 = q_sR S10 (q_u2 S10.2.2.2.2 37 3 (some 40)) → (∀ a15 : Nat, ∀ S14 : QS, S14 = q_nS S13 a15 9 6 → (∀ I16 : QI, I16 = q_rw I12 41 (fun _ => 0) → (∀ S17 : QS, S17 = q_sR S14 (q_u2 S14.2.2.2.2 37 4 (some 41)) → (∀ a19 : Nat, ∀ S18 : QS, S18 = q_nS S17 a19 9 4 → (∀ I20 : QI, I20 = q_rw I16 42 (fun _ => 0) → (∀ S21 : QS, S21 = q_sR S18 (q_u2 S18.2.2.2.2 37 5 (some 42)) → (∀ a23 : Nat, ∀ S22 : QS, S22 = q_nS S21 a23 9 6 → (∀ I24 : QI, I24 = q_rw I20 43 (fun _ => 0) → (∀ S25 : QS, S25 = q_sR S22 (q_u2 S22.2.2.2.2 37 6 (some 43)) → (∀ a27 : Nat, ∀ S26 : QS, S26 = q_nS S25 a27 9 16 → (∀ I28 : QI, I28 = q_rw I24 44 (fun _ => 0) → (∀ S29 : QS, S29 = q_sR S26 (q_u2 S26.2.2.2.2 37 7 (some 44)) → (∀ a31 : Nat, ∀ S30 : QS, S30 = q_nS S29 a31 9 16 → (∀ I32 : QI, I32 = q_rw I28 45 (fun _ => 0) → (∀ S33 : QS, S33 = q_sR S30 (q_u2 S30.2.2.2.2 37 8 (some 45)) → (post S33 I32 J)))))))))))))))))))))))))) := h
  refine V_aload_n dX1_init_0 rfl rfl ?_
  refine V_objInit dX1_init_1 ml_RX1_3 ob_in ob_co (Nat.le_of_ble_eq_true rfl) ?_
  refine V_aload_n dX1_init_4 rfl rfl ?_
  refine V_aload_n dX1_init_5 rfl rfl ?_
  refine V_putF dX1_init_6 fl_RX1_9 rfl rfl rfl (by rw [hN]; decide) hK37 rfl (fun _ => rfl) (fun _ => rfl) ?_
  refine V_memS (fun S1 e_S1 => ?_)
  replace h := h S1 e_S1
  have hN9 : S1.2.1 = 38 := by rw [e_S1]; exact hN
  have hc9 : q_cl S1 := by rw [e_S1]; exact q_cl_put hc (by rw [hN]; decide)
  have hE9 : Ex S S1 := by rw [e_S1]; exact hE.tr (Ex.put _ _)
  have hR9 : q_Rk 37 S S1 := by rw [e_S1]; exact hR.put (Or.inl rfl)
  have hK379 : S1.2.2.1 37 = 1 := by rw [e_S1]; exact hK37
  clear hc hE hR hK37  
  have hN := hN9
  have hc := hc9
  have hE := hE9
  have hR := hR9
  have hK37 := hK379
  refine V_aload_n dX1_init_9 rfl rfl ?_
  refine V_bipush (v := 6) dX1_init_10 (by decide) ?_
  refine V_newI (z := 6) dX1_init_12 ac_int (by decide) (by decide) (by decide) (by rw [hN]; decide) hc (q_vbn hN rfl) (q_vbn hN rfl) (by decide) (by decide) (fun a3 => ?_)
  rw [hN]
  refine V_memS (fun S2 e_S2 => ?_)
  refine V_memI (fun I4 e_I4 => ?_)
  replace h := h a3 S2 e_S2 I4 e_I4
  have hM9 := hN
  have hN9 : S2.2.1 = 39 := by rw [e_S2]; show _ + 1 = 39; rw [hN]
  have hc9 : q_cl S2 := by rw [e_S2]; exact q_cl_new hc _ _ _
  have hE9 : Ex S S2 := by rw [e_S2]; exact hE.tr (Ex.new _ (by rw [hN]; decide) _ _ _)
  have hR9 : q_Rk 37 S S2 := by rw [e_S2]; exact hR.new hE.1 _ _ _
  have hK379 : S2.2.2.1 37 = 1 := by rw [e_S2]; exact (if_neg (by rw [hN]; decide)).trans hK37
  clear hc hE hR hK37  
  have hN := hN9
  have hc := hc9
  have hE := hE9
  have hR := hR9
  have hK37 := hK379
  clear hM9
  refine V_putF dX1_init_14 fl_RX1_15 rfl rfl rfl (by rw [hN]; decide) hK37 rfl (fun _ => rfl) (fun _ => rfl) ?_
  refine V_memS (fun S5 e_S5 => ?_)
  replace h := h S5 e_S5
  have hN9 : S5.2.1 = 39 := by rw [e_S5]; exact hN
  have hc9 : q_cl S5 := by rw [e_S5]; exact q_cl_put hc (by rw [hN]; decide)
  have hE9 : Ex S S5 := by rw [e_S5]; exact hE.tr (Ex.put _ _)
  have hR9 : q_Rk 37 S S5 := by rw [e_S5]; exact hR.put (Or.inl rfl)
  have hK379 : S5.2.2.1 37 = 1 := by rw [e_S5]; exact hK37
  clear hc hE hR hK37  
  have hN := hN9
  have hc := hc9
  have hE := hE9
  have hR := hR9
  have hK37 := hK379
  refine V_aload_n dX1_init_17 rfl rfl ?_
  refine V_bipush (v := 6) dX1_init_18 (by decide) ?_
  refine V_newI (z := 6) dX1_init_20 ac_int (by decide) (by decide) (by decide) (by rw [hN]; decide) hc (q_vbn hN rfl) (q_vbn hN rfl) (by decide) (by decide) (fun a7 => ?_)
  rw [hN]
  refine V_memS (fun S6 e_S6 => ?_)
  refine V_memI (fun I8 e_I8 => ?_)
  replace h := h a7 S6 e_S6 I8 e_I8
  have hM9 := hN
  have hN9 : S6.2.1 = 40 := by rw [e_S6]; show _ + 1 = 40; rw [hN]
  have hc9 : q_cl S6 := by rw [e_S6]; exact q_cl_new hc _ _ _
  have hE9 : Ex S S6 := by rw [e_S6]; exact hE.tr (Ex.new _ (by rw [hN]; decide) _ _ _)
  have hR9 : q_Rk 37 S S6 := by rw [e_S6]; exact hR.new hE.1 _ _ _
  have hK379 : S6.2.2.1 37 = 1 := by rw [e_S6]; exact (if_neg (by rw [hN]; decide)).trans hK37
  clear hc hE hR hK37  
  have hN := hN9
  have hc := hc9
  have hE := hE9
  have hR := hR9
  have hK37 := hK379
  clear hM9
  refine V_putF dX1_init_22 fl_RX1_19 rfl rfl rfl (by rw [hN]; decide) hK37 rfl (fun _ => rfl) (fun _ => rfl) ?_
  refine V_memS (fun S9 e_S9 => ?_)
  replace h := h S9 e_S9
  have hN9 : S9.2.1 = 40 := by rw [e_S9]; exact hN
  have hc9 : q_cl S9 := by rw [e_S9]; exact q_cl_put hc (by rw [hN]; decide)
  have hE9 : Ex S S9 := by rw [e_S9]; exact hE.tr (Ex.put _ _)
  have hR9 : q_Rk 37 S S9 := by rw [e_S9]; exact hR.put (Or.inl rfl)
  have hK379 : S9.2.2.1 37 = 1 := by rw [e_S9]; exact hK37
  clear hc hE hR hK37  
  have hN := hN9
  have hc := hc9
  have hE := hE9
  have hR := hR9
  have hK37 := hK379
  refine V_aload_n dX1_init_25 rfl rfl ?_
  refine V_bipush (v := 6) dX1_init_26 (by decide) ?_
  refine V_newI (z := 6) dX1_init_28 ac_int (by decide) (by decide) (by decide) (by rw [hN]; decide) hc (q_vbn hN rfl) (q_vbn hN rfl) (by decide) (by decide) (fun a11 => ?_)
  rw [hN]
  refine V_memS (fun S10 e_S10 => ?_)
  refine V_memI (fun I12 e_I12 => ?_)
  replace h := h a11 S10 e_S10 I12 e_I12
  have hM9 := hN
  have hN9 : S10.2.1 = 41 := by rw [e_S10]; show _ + 1 = 41; rw [hN]
  have hc9 : q_cl S10 := by rw [e_S10]; exact q_cl_new hc _ _ _
  have hE9 : Ex S S10 := by rw [e_S10]; exact hE.tr (Ex.new _ (by rw [hN]; decide) _ _ _)
  have hR9 : q_Rk 37 S S10 := by rw [e_S10]; exact hR.new hE.1 _ _ _
  have hK379 : S10.2.2.1 37 = 1 := by rw [e_S10]; exact (if_neg (by rw [hN]; decide)).trans hK37
  clear hc hE hR hK37  
  have hN := hN9
  have hc := hc9
  have hE := hE9
  have hR := hR9
  have hK37 := hK379
  clear hM9
  refine V_putF dX1_init_30 fl_RX1_22 rfl rfl rfl (by rw [hN]; decide) hK37 rfl (fun _ => rfl) (fun _ => rfl) ?_
  refine V_memS (fun S13 e_S13 => ?_)
  replace h := h S13 e_S13
  have hN9 : S13.2.1 = 41 := by rw [e_S13]; exact hN
  have hc9 : q_cl S13 := by rw [e_S13]; exact q_cl_put hc (by rw [hN]; decide)
  have hE9 : Ex S S13 := by rw [e_S13]; exact hE.tr (Ex.put _ _)
  have hR9 : q_Rk 37 S S13 := by rw [e_S13]; exact hR.put (Or.inl rfl)
  have hK379 : S13.2.2.1 37 = 1 := by rw [e_S13]; exact hK37
  clear hc hE hR hK37  
  have hN := hN9
  have hc := hc9
  have hE := hE9
  have hR := hR9
  have hK37 := hK379
  refine V_aload_n dX1_init_33 rfl rfl ?_
  refine V_bipush (v := 6) dX1_init_34 (by decide) ?_
  refine V_newI (z := 6) dX1_init_36 ac_int (by decide) (by decide) (by decide) (by rw [hN]; decide) hc (q_vbn hN rfl) (q_vbn hN rfl) (by decide) (by decide) (fun a15 => ?_)
  rw [hN]
  refine V_memS (fun S14 e_S14 => ?_)
  refine V_memI (fun I16 e_I16 => ?_)
  replace h := h a15 S14 e_S14 I16 e_I16
  have hM9 := hN
  have hN9 : S14.2.1 = 42 := by rw [e_S14]; show _ + 1 = 42; rw [hN]
  have hc9 : q_cl S14 := by rw [e_S14]; exact q_cl_new hc _ _ _
  have hE9 : Ex S S14 := by rw [e_S14]; exact hE.tr (Ex.new _ (by rw [hN]; decide) _ _ _)
  have hR9 : q_Rk 37 S S14 := by rw [e_S14]; exact hR.new hE.1 _ _ _
  have hK379 : S14.2.2.1 37 = 1 := by rw [e_S14]; exact (if_neg (by rw [hN]; decide)).trans hK37
  clear hc hE hR hK37  
  have hN := hN9
  have hc := hc9
  have hE := hE9
  have hR := hR9
  have hK37 := hK379
  clear hM9
  refine V_putF dX1_init_38 fl_RX1_25 rfl rfl rfl (by rw [hN]; decide) hK37 rfl (fun _ => rfl) (fun _ => rfl) ?_
  refine V_memS (fun S17 e_S17 => ?_)
  replace h := h S17 e_S17
  have hN9 : S17.2.1 = 42 := by rw [e_S17]; exact hN
  have hc9 : q_cl S17 := by rw [e_S17]; exact q_cl_put hc (by rw [hN]; decide)
  have hE9 : Ex S S17 := by rw [e_S17]; exact hE.tr (Ex.put _ _)
  have hR9 : q_Rk 37 S S17 := by rw [e_S17]; exact hR.put (Or.inl rfl)
  have hK379 : S17.2.2.1 37 = 1 := by rw [e_S17]; exact hK37
  clear hc hE hR hK37  
  have hN := hN9
  have hc := hc9
  have hE := hE9
  have hR := hR9
  have hK37 := hK379
  refine V_aload_n dX1_init_41 rfl rfl ?_
  refine V_iconst (v := 4) dX1_init_42 (by decide) ?_
  refine V_newI (z := 4) dX1_init_43 ac_int (by decide) (by decide) (by decide) (by rw [hN]; decide) hc (q_vbn hN rfl) (q_vbn hN rfl) (by decide) (by decide) (fun a19 => ?_)
  rw [hN]
  refine V_memS (fun S18 e_S18 => ?_)
  refine V_memI (fun I20 e_I20 => ?_)
  replace h := h a19 S18 e_S18 I20 e_I20
  have hM9 := hN
  have hN9 : S18.2.1 = 43 := by rw [e_S18]; show _ + 1 = 43; rw [hN]
  have hc9 : q_cl S18 := by rw [e_S18]; exact q_cl_new hc _ _ _
  have hE9 : Ex S S18 := by rw [e_S18]; exact hE.tr (Ex.new _ (by rw [hN]; decide) _ _ _)
  have hR9 : q_Rk 37 S S18 := by rw [e_S18]; exact hR.new hE.1 _ _ _
  have hK379 : S18.2.2.1 37 = 1 := by rw [e_S18]; exact (if_neg (by rw [hN]; decide)).trans hK37
  clear hc hE hR hK37  
  have hN := hN9
  have hc := hc9
  have hE := hE9
  have hR := hR9
  have hK37 := hK379
  clear hM9
  refine V_putF dX1_init_45 fl_RX1_28 rfl rfl rfl (by rw [hN]; decide) hK37 rfl (fun _ => rfl) (fun _ => rfl) ?_
  refine V_memS (fun S21 e_S21 => ?_)
  replace h := h S21 e_S21
  have hN9 : S21.2.1 = 43 := by rw [e_S21]; exact hN
  have hc9 : q_cl S21 := by rw [e_S21]; exact q_cl_put hc (by rw [hN]; decide)
  have hE9 : Ex S S21 := by rw [e_S21]; exact hE.tr (Ex.put _ _)
  have hR9 : q_Rk 37 S S21 := by rw [e_S21]; exact hR.put (Or.inl rfl)
  have hK379 : S21.2.2.1 37 = 1 := by rw [e_S21]; exact hK37
  clear hc hE hR hK37  
  have hN := hN9
  have hc := hc9
  have hE := hE9
  have hR := hR9
  have hK37 := hK379
  refine V_aload_n dX1_init_48 rfl rfl ?_
  refine V_bipush (v := 6) dX1_init_49 (by decide) ?_
  refine V_newI (z := 6) dX1_init_51 ac_int (by decide) (by decide) (by decide) (by rw [hN]; decide) hc (q_vbn hN rfl) (q_vbn hN rfl) (by decide) (by decide) (fun a23 => ?_)
  rw [hN]
  refine V_memS (fun S22 e_S22 => ?_)
  refine V_memI (fun I24 e_I24 => ?_)
  replace h := h a23 S22 e_S22 I24 e_I24
  have hM9 := hN
  have hN9 : S22.2.1 = 44 := by rw [e_S22]; show _ + 1 = 44; rw [hN]
  have hc9 : q_cl S22 := by rw [e_S22]; exact q_cl_new hc _ _ _
  have hE9 : Ex S S22 := by rw [e_S22]; exact hE.tr (Ex.new _ (by rw [hN]; decide) _ _ _)
  have hR9 : q_Rk 37 S S22 := by rw [e_S22]; exact hR.new hE.1 _ _ _
  have hK379 : S22.2.2.1 37 = 1 := by rw [e_S22]; exact (if_neg (by rw [hN]; decide)).trans hK37
  clear hc hE hR hK37  
  have hN := hN9
  have hc := hc9
  have hE := hE9
  have hR := hR9
  have hK37 := hK379
  clear hM9
  refine V_putF dX1_init_53 fl_RX1_31 rfl rfl rfl (by rw [hN]; decide) hK37 rfl (fun _ => rfl) (fun _ => rfl) ?_
  refine V_memS (fun S25 e_S25 => ?_)
  replace h := h S25 e_S25
  have hN9 : S25.2.1 = 44 := by rw [e_S25]; exact hN
  have hc9 : q_cl S25 := by rw [e_S25]; exact q_cl_put hc (by rw [hN]; decide)
  have hE9 : Ex S S25 := by rw [e_S25]; exact hE.tr (Ex.put _ _)
  have hR9 : q_Rk 37 S S25 := by rw [e_S25]; exact hR.put (Or.inl rfl)
  have hK379 : S25.2.2.1 37 = 1 := by rw [e_S25]; exact hK37
  clear hc hE hR hK37  
  have hN := hN9
  have hc := hc9
  have hE := hE9
  have hR := hR9
  have hK37 := hK379
  refine V_aload_n dX1_init_56 rfl rfl ?_
  refine V_bipush (v := 16) dX1_init_57 (by decide) ?_
  refine V_newI (z := 16) dX1_init_59 ac_int (by decide) (by decide) (by decide) (by rw [hN]; decide) hc (q_vbn hN rfl) (q_vbn hN rfl) (by decide) (by decide) (fun a27 => ?_)
  rw [hN]
  refine V_memS (fun S26 e_S26 => ?_)
  refine V_memI (fun I28 e_I28 => ?_)
  replace h := h a27 S26 e_S26 I28 e_I28
  have hM9 := hN
  have hN9 : S26.2.1 = 45 := by rw [e_S26]; show _ + 1 = 45; rw [hN]
  have hc9 : q_cl S26 := by rw [e_S26]; exact q_cl_new hc _ _ _
  have hE9 : Ex S S26 := by rw [e_S26]; exact hE.tr (Ex.new _ (by rw [hN]; decide) _ _ _)
  have hR9 : q_Rk 37 S S26 := by rw [e_S26]; exact hR.new hE.1 _ _ _
  have hK379 : S26.2.2.1 37 = 1 := by rw [e_S26]; exact (if_neg (by rw [hN]; decide)).trans hK37
  clear hc hE hR hK37  
  have hN := hN9
  have hc := hc9
  have hE := hE9
  have hR := hR9
  have hK37 := hK379
  clear hM9
  refine V_putF dX1_init_61 fl_RX1_34 rfl rfl rfl (by rw [hN]; decide) hK37 rfl (fun _ => rfl) (fun _ => rfl) ?_
  refine V_memS (fun S29 e_S29 => ?_)
  replace h := h S29 e_S29
  have hN9 : S29.2.1 = 45 := by rw [e_S29]; exact hN
  have hc9 : q_cl S29 := by rw [e_S29]; exact q_cl_put hc (by rw [hN]; decide)
  have hE9 : Ex S S29 := by rw [e_S29]; exact hE.tr (Ex.put _ _)
  have hR9 : q_Rk 37 S S29 := by rw [e_S29]; exact hR.put (Or.inl rfl)
  have hK379 : S29.2.2.1 37 = 1 := by rw [e_S29]; exact hK37
  clear hc hE hR hK37  
  have hN := hN9
  have hc := hc9
  have hE := hE9
  have hR := hR9
  have hK37 := hK379
  refine V_aload_n dX1_init_64 rfl rfl ?_
  refine V_bipush (v := 16) dX1_init_65 (by decide) ?_
  refine V_newI (z := 16) dX1_init_67 ac_int (by decide) (by decide) (by decide) (by rw [hN]; decide) hc (q_vbn hN rfl) (q_vbn hN rfl) (by decide) (by decide) (fun a31 => ?_)
  rw [hN]
  refine V_memS (fun S30 e_S30 => ?_)
  refine V_memI (fun I32 e_I32 => ?_)
  replace h := h a31 S30 e_S30 I32 e_I32
  have hM9 := hN
  have hN9 : S30.2.1 = 46 := by rw [e_S30]; show _ + 1 = 46; rw [hN]
  have hc9 : q_cl S30 := by rw [e_S30]; exact q_cl_new hc _ _ _
  have hE9 : Ex S S30 := by rw [e_S30]; exact hE.tr (Ex.new _ (by rw [hN]; decide) _ _ _)
  have hR9 : q_Rk 37 S S30 := by rw [e_S30]; exact hR.new hE.1 _ _ _
  have hK379 : S30.2.2.1 37 = 1 := by rw [e_S30]; exact (if_neg (by rw [hN]; decide)).trans hK37
  clear hc hE hR hK37  
  have hN := hN9
  have hc := hc9
  have hE := hE9
  have hR := hR9
  have hK37 := hK379
  clear hM9
  refine V_putF dX1_init_69 fl_RX1_37 rfl rfl rfl (by rw [hN]; decide) hK37 rfl (fun _ => rfl) (fun _ => rfl) ?_
  refine V_memS (fun S33 e_S33 => ?_)
  replace h := h S33 e_S33
  have hN9 : S33.2.1 = 46 := by rw [e_S33]; exact hN
  have hc9 : q_cl S33 := by rw [e_S33]; exact q_cl_put hc (by rw [hN]; decide)
  have hE9 : Ex S S33 := by rw [e_S33]; exact hE.tr (Ex.put _ _)
  have hR9 : q_Rk 37 S S33 := by rw [e_S33]; exact hR.put (Or.inl rfl)
  have hK379 : S33.2.2.1 37 = 1 := by rw [e_S33]; exact hK37
  clear hc hE hR hK37  
  have hN := hN9
  have hc := hc9
  have hE := hE9
  have hR := hR9
  have hK37 := hK379
  exact V_vret dX1_init_72 rfl (by decide) (by decide) ⟨rfl, hE, hc, by rw [hN, hN0], hR, h⟩
def w_X6_init_at46 (S : QS) (I : QI) (J : QJ) (post : QS → QI → QJ → Prop) : Prop := (∀ S1 : QS, S1 = q_sR S (q_u2 S.2.2.2.2 46 0 (some 1)) → (∀ a3 : Nat, ∀ S2 : QS, S2 = q_nS S1 a3 9 4 → (∀ I4 : QI, I4 = q_rw I 47 (fun _ => 0) → (∀ S5 : QS, S5 = q_sR S2 (q_u2 S2.2.2.2.2 46 1 (some 47)) → (∀ a7 : Nat, ∀ S6 : QS, S6 = q_nS S5 a7 9 4 → (∀ I8 : QI, I8 = q_rw I4 48 (fun _ => 0) → (∀ S9 : QS, S9 = q_sR S6 (q_u2 S6.2.2.2.2 46 2 (some 48)) → (∀ a11 : Nat, ∀ S10 : QS, S10 = q_nS S9 a11 9 4 → (∀ I12 : QI, I12 = q_rw I8 49 (fun _ => 0) → (∀ S13 : QS, S13 = q_sR S10 (q_u2 S10.2.2.2.2 46 3 (some 49)) → (∀ a15 : Nat, ∀ S14 : QS, S14 = q_nS S13 a15 9 4 → (∀ I16 : QI, I16 = q_rw I12 50 (fun _ => 0) → (∀ S17 : QS, S17 = q_sR S14 (q_u2 S14.2.2.2.2 46 4 (some 50)) → (post S17 I16 J))))))))))))))
set_option maxRecDepth 100000 in
set_option maxHeartbeats 4000000 in
theorem s_X6_init_at46 {X : QX} {S : QS} {I : QI} {J : QJ} {post : QS → QI → QJ → Prop} (hN : S.2.1 = 47) (hc : q_cl S) (hK46 : S.2.2.1 46 = 6) (h : w_X6_init_at46 S I J post) : CX X mX6_init 1 4 16 [.ref 46, .ref 1] S I J (q_Pk 46 S 4 post) := by
  have hN0 := hN
  have hE : Ex S S := Ex.rf
  have hR : q_Rk 46 S S := q_Rk.rf
  refine CX.of (lo := [(0, .ref 46), (1, .ref 1)]) ok_mX6_init rfl (Nat.le_of_ble_eq_true rfl) rfl ?_
  replace h : (∀ S1 : QS, S1 = q_sR S (q_u2 S.2.2.2.2 46 0 (some 1)) → (∀ a3 : Nat, ∀ S2 : QS, S2 = q_nS S1 a3 9 4 → (∀ I4 : QI, I4 = q_rw I 47 (fun _ => 0) → (∀ S5 : QS, S5 = q_sR S2 (q_u2 S2.2.2.2.2 46 1 (some 47)) → (∀ a7 : Nat, ∀ S6 : QS, S6 = q_nS S5 a7 9 4 → (∀ I8 : QI, I8 = q_rw I4 48 (fun _ => 0) → (∀ S9 : QS, S9 = q_sR S6 (q_u2 S6.2.2.2.2 46 2 (some 48)) → (∀ a11 : Nat, ∀ S10 : QS, S10 = q_nS S9 a11 9 4 → (∀ I12 : QI, I12 = q_rw I8 49 (fun _ => 0) → (∀ S13 : QS, S13 = q_sR S10 (q_u2 S10.2.2.2.2 46 3 (some 49)) → (∀ a15 : Nat, ∀ S14 : QS, S14 = q_nS S13 a15 9 4 → (∀ I16 : QI, I16 = q_rw I12 50 (fun _ => 0) → (∀ S17 : QS, S17 = q_sR S14 (q_u2 S14.2.2.2.2 46 4 (some 50)) → (post S17 I16 J)))))))))))))) := h
  refine V_aload_n dX6_init_0 rfl rfl ?_
  refine V_objInit dX6_init_1 ml_RX6_3 ob_in ob_co (Nat.le_of_ble_eq_true rfl) ?_
  refine V_aload_n dX6_init_4 rfl rfl ?_
  refine V_aload_n dX6_init_5 rfl rfl ?_
  refine V_putF dX6_init_6 fl_RX6_9 rfl rfl rfl (by rw [hN]; decide) hK46 rfl (fun _ => rfl) (fun _ => rfl) ?_
  refine V_memS (fun S1 e_S1 => ?_)
  replace h := h S1 e_S1
  have hN9 : S1.2.1 = 47 := by rw [e_S1]; exact hN
  have hc9 : q_cl S1 := by rw [e_S1]; exact q_cl_put hc (by rw [hN]; decide)
  have hE9 : Ex S S1 := by rw [e_S1]; exact hE.tr (Ex.put _ _)
  have hR9 : q_Rk 46 S S1 := by rw [e_S1]; exact hR.put (Or.inl rfl)
  have hK469 : S1.2.2.1 46 = 6 := by rw [e_S1]; exact hK46
  clear hc hE hR hK46  
  have hN := hN9
  have hc := hc9
  have hE := hE9
  have hR := hR9
  have hK46 := hK469
  refine V_aload_n dX6_init_9 rfl rfl ?_
  refine V_iconst (v := 4) dX6_init_10 (by decide) ?_
  refine V_newI (z := 4) dX6_init_11 ac_int (by decide) (by decide) (by decide) (by rw [hN]; decide) hc (q_vbn hN rfl) (q_vbn hN rfl) (by decide) (by decide) (fun a3 => ?_)
  rw [hN]
  refine V_memS (fun S2 e_S2 => ?_)
  refine V_memI (fun I4 e_I4 => ?_)
  replace h := h a3 S2 e_S2 I4 e_I4
  have hM9 := hN
  have hN9 : S2.2.1 = 48 := by rw [e_S2]; show _ + 1 = 48; rw [hN]
  have hc9 : q_cl S2 := by rw [e_S2]; exact q_cl_new hc _ _ _
  have hE9 : Ex S S2 := by rw [e_S2]; exact hE.tr (Ex.new _ (by rw [hN]; decide) _ _ _)
  have hR9 : q_Rk 46 S S2 := by rw [e_S2]; exact hR.new hE.1 _ _ _
  have hK469 : S2.2.2.1 46 = 6 := by rw [e_S2]; exact (if_neg (by rw [hN]; decide)).trans hK46
  clear hc hE hR hK46  
  have hN := hN9
  have hc := hc9
  have hE := hE9
  have hR := hR9
  have hK46 := hK469
  clear hM9
  refine V_putF dX6_init_13 fl_RX6_15 rfl rfl rfl (by rw [hN]; decide) hK46 rfl (fun _ => rfl) (fun _ => rfl) ?_
  refine V_memS (fun S5 e_S5 => ?_)
  replace h := h S5 e_S5
  have hN9 : S5.2.1 = 48 := by rw [e_S5]; exact hN
  have hc9 : q_cl S5 := by rw [e_S5]; exact q_cl_put hc (by rw [hN]; decide)
  have hE9 : Ex S S5 := by rw [e_S5]; exact hE.tr (Ex.put _ _)
  have hR9 : q_Rk 46 S S5 := by rw [e_S5]; exact hR.put (Or.inl rfl)
  have hK469 : S5.2.2.1 46 = 6 := by rw [e_S5]; exact hK46
  clear hc hE hR hK46  
  have hN := hN9
  have hc := hc9
  have hE := hE9
  have hR := hR9
  have hK46 := hK469
  refine V_aload_n dX6_init_16 rfl rfl ?_
  refine V_iconst (v := 4) dX6_init_17 (by decide) ?_
  refine V_newI (z := 4) dX6_init_18 ac_int (by decide) (by decide) (by decide) (by rw [hN]; decide) hc (q_vbn hN rfl) (q_vbn hN rfl) (by decide) (by decide) (fun a7 => ?_)
  rw [hN]
  refine V_memS (fun S6 e_S6 => ?_)
  refine V_memI (fun I8 e_I8 => ?_)
  replace h := h a7 S6 e_S6 I8 e_I8
  have hM9 := hN
  have hN9 : S6.2.1 = 49 := by rw [e_S6]; show _ + 1 = 49; rw [hN]
  have hc9 : q_cl S6 := by rw [e_S6]; exact q_cl_new hc _ _ _
  have hE9 : Ex S S6 := by rw [e_S6]; exact hE.tr (Ex.new _ (by rw [hN]; decide) _ _ _)
  have hR9 : q_Rk 46 S S6 := by rw [e_S6]; exact hR.new hE.1 _ _ _
  have hK469 : S6.2.2.1 46 = 6 := by rw [e_S6]; exact (if_neg (by rw [hN]; decide)).trans hK46
  clear hc hE hR hK46  
  have hN := hN9
  have hc := hc9
  have hE := hE9
  have hR := hR9
  have hK46 := hK469
  clear hM9
  refine V_putF dX6_init_20 fl_RX6_19 rfl rfl rfl (by rw [hN]; decide) hK46 rfl (fun _ => rfl) (fun _ => rfl) ?_
  refine V_memS (fun S9 e_S9 => ?_)
  replace h := h S9 e_S9
  have hN9 : S9.2.1 = 49 := by rw [e_S9]; exact hN
  have hc9 : q_cl S9 := by rw [e_S9]; exact q_cl_put hc (by rw [hN]; decide)
  have hE9 : Ex S S9 := by rw [e_S9]; exact hE.tr (Ex.put _ _)
  have hR9 : q_Rk 46 S S9 := by rw [e_S9]; exact hR.put (Or.inl rfl)
  have hK469 : S9.2.2.1 46 = 6 := by rw [e_S9]; exact hK46
  clear hc hE hR hK46  
  have hN := hN9
  have hc := hc9
  have hE := hE9
  have hR := hR9
  have hK46 := hK469
  refine V_aload_n dX6_init_23 rfl rfl ?_
  refine V_iconst (v := 4) dX6_init_24 (by decide) ?_
  refine V_newI (z := 4) dX6_init_25 ac_int (by decide) (by decide) (by decide) (by rw [hN]; decide) hc (q_vbn hN rfl) (q_vbn hN rfl) (by decide) (by decide) (fun a11 => ?_)
  rw [hN]
  refine V_memS (fun S10 e_S10 => ?_)
  refine V_memI (fun I12 e_I12 => ?_)
  replace h := h a11 S10 e_S10 I12 e_I12
  have hM9 := hN
  have hN9 : S10.2.1 = 50 := by rw [e_S10]; show _ + 1 = 50; rw [hN]
  have hc9 : q_cl S10 := by rw [e_S10]; exact q_cl_new hc _ _ _
  have hE9 : Ex S S10 := by rw [e_S10]; exact hE.tr (Ex.new _ (by rw [hN]; decide) _ _ _)
  have hR9 : q_Rk 46 S S10 := by rw [e_S10]; exact hR.new hE.1 _ _ _
  have hK469 : S10.2.2.1 46 = 6 := by rw [e_S10]; exact (if_neg (by rw [hN]; decide)).trans hK46
  clear hc hE hR hK46  
  have hN := hN9
  have hc := hc9
  have hE := hE9
  have hR := hR9
  have hK46 := hK469
  clear hM9
  refine V_putF dX6_init_27 fl_RX6_22 rfl rfl rfl (by rw [hN]; decide) hK46 rfl (fun _ => rfl) (fun _ => rfl) ?_
  refine V_memS (fun S13 e_S13 => ?_)
  replace h := h S13 e_S13
  have hN9 : S13.2.1 = 50 := by rw [e_S13]; exact hN
  have hc9 : q_cl S13 := by rw [e_S13]; exact q_cl_put hc (by rw [hN]; decide)
  have hE9 : Ex S S13 := by rw [e_S13]; exact hE.tr (Ex.put _ _)
  have hR9 : q_Rk 46 S S13 := by rw [e_S13]; exact hR.put (Or.inl rfl)
  have hK469 : S13.2.2.1 46 = 6 := by rw [e_S13]; exact hK46
  clear hc hE hR hK46  
  have hN := hN9
  have hc := hc9
  have hE := hE9
  have hR := hR9
  have hK46 := hK469
  refine V_aload_n dX6_init_30 rfl rfl ?_
  refine V_iconst (v := 4) dX6_init_31 (by decide) ?_
  refine V_newI (z := 4) dX6_init_32 ac_int (by decide) (by decide) (by decide) (by rw [hN]; decide) hc (q_vbn hN rfl) (q_vbn hN rfl) (by decide) (by decide) (fun a15 => ?_)
  rw [hN]
  refine V_memS (fun S14 e_S14 => ?_)
  refine V_memI (fun I16 e_I16 => ?_)
  replace h := h a15 S14 e_S14 I16 e_I16
  have hM9 := hN
  have hN9 : S14.2.1 = 51 := by rw [e_S14]; show _ + 1 = 51; rw [hN]
  have hc9 : q_cl S14 := by rw [e_S14]; exact q_cl_new hc _ _ _
  have hE9 : Ex S S14 := by rw [e_S14]; exact hE.tr (Ex.new _ (by rw [hN]; decide) _ _ _)
  have hR9 : q_Rk 46 S S14 := by rw [e_S14]; exact hR.new hE.1 _ _ _
  have hK469 : S14.2.2.1 46 = 6 := by rw [e_S14]; exact (if_neg (by rw [hN]; decide)).trans hK46
  clear hc hE hR hK46  
  have hN := hN9
  have hc := hc9
  have hE := hE9
  have hR := hR9
  have hK46 := hK469
  clear hM9
  refine V_putF dX6_init_34 fl_RX6_25 rfl rfl rfl (by rw [hN]; decide) hK46 rfl (fun _ => rfl) (fun _ => rfl) ?_
  refine V_memS (fun S17 e_S17 => ?_)
  replace h := h S17 e_S17
  have hN9 : S17.2.1 = 51 := by rw [e_S17]; exact hN
  have hc9 : q_cl S17 := by rw [e_S17]; exact q_cl_put hc (by rw [hN]; decide)
  have hE9 : Ex S S17 := by rw [e_S17]; exact hE.tr (Ex.put _ _)
  have hR9 : q_Rk 46 S S17 := by rw [e_S17]; exact hR.put (Or.inl rfl)
  have hK469 : S17.2.2.1 46 = 6 := by rw [e_S17]; exact hK46
  clear hc hE hR hK46  
  have hN := hN9
  have hc := hc9
  have hE := hE9
  have hR := hR9
  have hK46 := hK469
  exact V_vret dX6_init_37 rfl (by decide) (by decide) ⟨rfl, hE, hc, by rw [hN, hN0], hR, h⟩
def w_X7_init_at0 (S : QS) (I : QI) (J : QJ) (post : QS → QI → QJ → Prop) : Prop := (∀ a2 : Nat, ∀ S1 : QS, S1 = q_nS S a2 4 0 → (∀ I3 : QI, I3 = q_rw I 1 (fun _ => 0) → (w_X4_init_at1 S1 I3 J (fun S4 I5 J6 => (∀ S7 : QS, S7 = q_sR S4 (q_u2 S4.2.2.2.2 0 0 (some 1)) → (∀ a9 : Nat, ∀ S8 : QS, S8 = q_nS S7 a9 2 0 → (∀ I10 : QI, I10 = q_rw I5 15 (fun _ => 0) → (w_X2_init_at15 S8 I10 J6 (fun S11 I12 J13 => (∀ S14 : QS, S14 = q_sR S11 (q_u2 S11.2.2.2.2 0 1 (some 15)) → (∀ a16 : Nat, ∀ S15 : QS, S15 = q_nS S14 a16 0 0 → (∀ I17 : QI, I17 = q_rw I12 23 (fun _ => 0) → (w_X0_init_at23 S15 I17 J13 (fun S18 I19 J20 => (∀ S21 : QS, S21 = q_sR S18 (q_u2 S18.2.2.2.2 0 2 (some 23)) → (∀ a23 : Nat, ∀ S22 : QS, S22 = q_nS S21 a23 3 0 → (∀ I24 : QI, I24 = q_rw I19 30 (fun _ => 0) → (w_X3_init_at30 S22 I24 J20 (fun S25 I26 J27 => (∀ S28 : QS, S28 = q_sR S25 (q_u2 S25.2.2.2.2 0 3 (some 30)) → (∀ a30 : Nat, ∀ S29 : QS, S29 = q_nS S28 a30 1 0 → (∀ I31 : QI, I31 = q_rw I26 37 (fun _ => 0) → (w_X1_init_at37 S29 I31 J27 (fun S32 I33 J34 => (∀ S35 : QS, S35 = q_sR S32 (q_u2 S32.2.2.2.2 0 4 (some 37)) → (∀ a37 : Nat, ∀ S36 : QS, S36 = q_nS S35 a37 6 0 → (∀ I38 : QI, I38 = q_rw I33 46 (fun _ => 0) → (w_X6_init_at46 S36 I38 J34 (fun S39 I40 J41 => (∀ S42 : QS, S42 = q_sR S39 (q_u2 S39.2.2.2.2 0 5 (some 46)) → (∀ I43 : QI, I43 = q_u2 I40 0 6 100000 → (post S42 I43 J41))))))))))))))))))))))))))))))))
set_option maxRecDepth 100000 in
set_option maxHeartbeats 4000000 in
theorem s_X7_init_at0 {X : QX} {S : QS} {I : QI} {J : QJ} {post : QS → QI → QJ → Prop} (hN : S.2.1 = 1) (hc : q_cl S) (hK0 : S.2.2.1 0 = 7) (h : w_X7_init_at0 S I J post) : CX X mX7_init 3 50 37107 [.ref 0] S I J (q_Pk 0 S 50 post) := by
  have hN0 := hN
  have hE : Ex S S := Ex.rf
  have hR : q_Rk 0 S S := q_Rk.rf
  refine CX.of (lo := [(0, .ref 0)]) ok_mX7_init rfl (Nat.le_of_ble_eq_true rfl) rfl ?_
  replace h : (∀ a2 : Nat, ∀ S1 : QS, S1 = q_nS S a2 4 0 → (∀ I3 : QI, I3 = q_rw I 1 (fun _ => 0) → (w_X4_init_at1 S1 I3 J (fun S4 I5 J6 => (∀ S7 : QS, S7 = q_sR S4 (q_u2 S4.2.2.2.2 0 0 (some 1)) → (∀ a9 : Nat, ∀ S8 : QS, S8 = q_nS S7 a9 2 0 → (∀ I10 : QI, I10 = q_rw I5 15 (fun _ => 0) → (w_X2_init_at15 S8 I10 J6 (fun S11 I12 J13 => (∀ S14 : QS, S14 = q_sR S11 (q_u2 S11.2.2.2.2 0 1 (some 15)) → (∀ a16 : Nat, ∀ S15 : QS, S15 = q_nS S14 a16 0 0 → (∀ I17 : QI, I17 = q_rw I12 23 (fun _ => 0) → (w_X0_init_at23 S15 I17 J13 (fun S18 I19 J20 => (∀ S21 : QS, S21 = q_sR S18 (q_u2 S18.2.2.2.2 0 2 (some 23)) → (∀ a23 : Nat, ∀ S22 : QS, S22 = q_nS S21 a23 3 0 → (∀ I24 : QI, I24 = q_rw I19 30 (fun _ => 0) → (w_X3_init_at30 S22 I24 J20 (fun S25 I26 J27 => (∀ S28 : QS, S28 = q_sR S25 (q_u2 S25.2.2.2.2 0 3 (some 30)) → (∀ a30 : Nat, ∀ S29 : QS, S29 = q_nS S28 a30 1 0 → (∀ I31 : QI, I31 = q_rw I26 37 (fun _ => 0) → (w_X1_init_at37 S29 I31 J27 (fun S32 I33 J34 => (∀ S35 : QS, S35 = q_sR S32 (q_u2 S32.2.2.2.2 0 4 (some 37)) → (∀ a37 : Nat, ∀ S36 : QS, S36 = q_nS S35 a37 6 0 → (∀ I38 : QI, I38 = q_rw I33 46 (fun _ => 0) → (w_X6_init_at46 S36 I38 J34 (fun S39 I40 J41 => (∀ S42 : QS, S42 = q_sR S39 (q_u2 S39.2.2.2.2 0 5 (some 46)) → (∀ I43 : QI, I43 = q_u2 I40 0 6 100000 → (post S42 I43 J41)))))))))))))))))))))))))))))))) := h
  refine V_aload_n dX7_init_0 rfl rfl ?_
  refine V_objInit dX7_init_1 ml_RX7_1 ob_in ob_co (Nat.le_of_ble_eq_true rfl) ?_
  refine V_aload_n dX7_init_4 rfl rfl ?_
  refine V_new (ci := 4) dX7_init_5 (by decide) cl_RX7_7 is_RX4 ii_RX4 (by rw [hN]; decide) hc (q_vbn hN rfl) (q_vbn hN rfl) (by decide) (by decide) (fun a2 => ?_)
  rw [hN]
  refine V_memS (fun S1 e_S1 => ?_)
  refine V_memI (fun I3 e_I3 => ?_)
  replace h := h a2 S1 e_S1 I3 e_I3
  have hM9 := hN
  have hN9 : S1.2.1 = 2 := by rw [e_S1]; show _ + 1 = 2; rw [hN]
  have hc9 : q_cl S1 := by rw [e_S1]; exact q_cl_new hc _ _ _
  have hE9 : Ex S S1 := by rw [e_S1]; exact hE.tr (Ex.new _ (by rw [hN]; decide) _ _ _)
  have hR9 : q_Rk 0 S S1 := by rw [e_S1]; exact hR.new hE.1 _ _ _
  have hK09 : S1.2.2.1 0 = 7 := by rw [e_S1]; exact (if_neg (by rw [hN]; decide)).trans hK0
  clear hc hE hR hK0  
  have hN := hN9
  have hc := hc9
  have hE := hE9
  have hR := hR9
  have hK0 := hK09
  have hK1 : S1.2.2.1 1 = 4 := by rw [e_S1]; exact if_pos hM9.symm
  clear hM9
  refine V_dup dX7_init_8 rfl ?_
  refine V_callIk (st := [.ref 1, .ref 0]) [] dX7_init_9 ok_mX4_init rfl ml_RX7_9 in_mX4_init rfl rfl (Nat.le_of_ble_eq_true rfl) (by decide) (by decide) (by decide) (q_vbn hN rfl) (q_vbn hN rfl) (s_X4_init_at1 hN hc hK1 h) (fun S4 I5 J6 hE8 hc8 hN8 hR8 h => ?_)
  have hN9 : S4.2.1 = 15 := by rw [hN8, hN]
  have hE9 := hE.tr hE8
  have hR9 := hR.call hE hR8 (by rw [hN0]; decide)
  have hK09 : S4.2.2.1 0 = 7 := (hE8.2.1 0 (by rw [hN]; decide)).2.1.trans hK0
  have hK19 : S4.2.2.1 1 = 4 := (hE8.2.1 1 (by rw [hN]; decide)).2.1.trans hK1
  clear hc hE hR hK0 hK1  
  have hN := hN9
  have hc := hc8
  have hE := hE9
  have hR := hR9
  have hK0 := hK09
  have hK1 := hK19
  refine V_putF dX7_init_12 fl_RX7_10 rfl rfl rfl (by rw [hN]; decide) hK0 rfl (fun _ => rfl) (fun _ => rfl) ?_
  refine V_memS (fun S7 e_S7 => ?_)
  replace h := h S7 e_S7
  have hN9 : S7.2.1 = 15 := by rw [e_S7]; exact hN
  have hc9 : q_cl S7 := by rw [e_S7]; exact q_cl_put hc (by rw [hN]; decide)
  have hE9 : Ex S S7 := by rw [e_S7]; exact hE.tr (Ex.put _ _)
  have hR9 : q_Rk 0 S S7 := by rw [e_S7]; exact hR.put (Or.inl rfl)
  have hK09 : S7.2.2.1 0 = 7 := by rw [e_S7]; exact hK0
  have hK19 : S7.2.2.1 1 = 4 := by rw [e_S7]; exact hK1
  clear hc hE hR hK0 hK1  
  have hN := hN9
  have hc := hc9
  have hE := hE9
  have hR := hR9
  have hK0 := hK09
  have hK1 := hK19
  have hR0_0 : S7.2.2.2.2 0 0 = some 1 := by rw [e_S7]; exact q_u2_s _ _ _ _
  refine V_aload_n dX7_init_15 rfl rfl ?_
  refine V_new (ci := 2) dX7_init_16 (by decide) cl_RX7_16 is_RX2 ii_RX2 (by rw [hN]; decide) hc (q_vbn hN rfl) (q_vbn hN rfl) (by decide) (by decide) (fun a9 => ?_)
  rw [hN]
  refine V_memS (fun S8 e_S8 => ?_)
  refine V_memI (fun I10 e_I10 => ?_)
  replace h := h a9 S8 e_S8 I10 e_I10
  have hM9 := hN
  have hN9 : S8.2.1 = 16 := by rw [e_S8]; show _ + 1 = 16; rw [hN]
  have hc9 : q_cl S8 := by rw [e_S8]; exact q_cl_new hc _ _ _
  have hE9 : Ex S S8 := by rw [e_S8]; exact hE.tr (Ex.new _ (by rw [hN]; decide) _ _ _)
  have hR9 : q_Rk 0 S S8 := by rw [e_S8]; exact hR.new hE.1 _ _ _
  have hK09 : S8.2.2.1 0 = 7 := by rw [e_S8]; exact (if_neg (by rw [hN]; decide)).trans hK0
  have hK19 : S8.2.2.1 1 = 4 := by rw [e_S8]; exact (if_neg (by rw [hN]; decide)).trans hK1
  have hR0_09 : S8.2.2.2.2 0 0 = some 1 := by rw [e_S8]; exact (congrFun (if_neg (by rw [hN]; decide)) _).trans hR0_0
  clear hc hE hR hK0 hK1  hR0_0
  have hN := hN9
  have hc := hc9
  have hE := hE9
  have hR := hR9
  have hK0 := hK09
  have hK1 := hK19
  have hR0_0 := hR0_09
  have hK15 : S8.2.2.1 15 = 2 := by rw [e_S8]; exact if_pos hM9.symm
  clear hM9
  refine V_dup dX7_init_19 rfl ?_
  refine V_aload_n dX7_init_20 rfl rfl ?_
  refine V_getr dX7_init_21 fl_RX7_10 (by rw [hN]; decide) hK0 rfl hR0_0 ?_
  refine V_callIk (st := [.ref 15, .ref 0]) [.ref 1] dX7_init_24 ok_mX2_init rfl ml_RX7_18 in_mX2_init rfl rfl (Nat.le_of_ble_eq_true rfl) (by decide) (by decide) (by decide) (q_vbn hN rfl) (q_vbn hN rfl) (s_X2_init_at15 hN hc hK15 h) (fun S11 I12 J13 hE8 hc8 hN8 hR8 h => ?_)
  have hN9 : S11.2.1 = 23 := by rw [hN8, hN]
  have hE9 := hE.tr hE8
  have hR9 := hR.call hE hR8 (by rw [hN0]; decide)
  have hK09 : S11.2.2.1 0 = 7 := (hE8.2.1 0 (by rw [hN]; decide)).2.1.trans hK0
  have hK19 : S11.2.2.1 1 = 4 := (hE8.2.1 1 (by rw [hN]; decide)).2.1.trans hK1
  have hR0_09 : S11.2.2.2.2 0 0 = some 1 := (congrFun (hR8 0 (by rw [hN]; decide) (by decide)) _).trans hR0_0
  have hK159 : S11.2.2.1 15 = 2 := (hE8.2.1 15 (by rw [hN]; decide)).2.1.trans hK15
  clear hc hE hR hK0 hK1 hK15  hR0_0
  have hN := hN9
  have hc := hc8
  have hE := hE9
  have hR := hR9
  have hK0 := hK09
  have hK1 := hK19
  have hR0_0 := hR0_09
  have hK15 := hK159
  refine V_putF dX7_init_27 fl_RX7_21 rfl rfl rfl (by rw [hN]; decide) hK0 rfl (fun _ => rfl) (fun _ => rfl) ?_
  refine V_memS (fun S14 e_S14 => ?_)
  replace h := h S14 e_S14
  have hN9 : S14.2.1 = 23 := by rw [e_S14]; exact hN
  have hc9 : q_cl S14 := by rw [e_S14]; exact q_cl_put hc (by rw [hN]; decide)
  have hE9 : Ex S S14 := by rw [e_S14]; exact hE.tr (Ex.put _ _)
  have hR9 : q_Rk 0 S S14 := by rw [e_S14]; exact hR.put (Or.inl rfl)
  have hK09 : S14.2.2.1 0 = 7 := by rw [e_S14]; exact hK0
  have hK19 : S14.2.2.1 1 = 4 := by rw [e_S14]; exact hK1
  have hR0_09 : S14.2.2.2.2 0 0 = some 1 := by rw [e_S14]; exact (if_neg (by decide)).trans hR0_0
  have hK159 : S14.2.2.1 15 = 2 := by rw [e_S14]; exact hK15
  clear hc hE hR hK0 hK1 hK15  hR0_0
  have hN := hN9
  have hc := hc9
  have hE := hE9
  have hR := hR9
  have hK0 := hK09
  have hK1 := hK19
  have hR0_0 := hR0_09
  have hK15 := hK159
  have hR0_1 : S14.2.2.2.2 0 1 = some 15 := by rw [e_S14]; exact q_u2_s _ _ _ _
  refine V_aload_n dX7_init_30 rfl rfl ?_
  refine V_new (ci := 0) dX7_init_31 (by decide) cl_RX7_25 is_RX0 ii_RX0 (by rw [hN]; decide) hc (q_vbn hN rfl) (q_vbn hN rfl) (by decide) (by decide) (fun a16 => ?_)
  rw [hN]
  refine V_memS (fun S15 e_S15 => ?_)
  refine V_memI (fun I17 e_I17 => ?_)
  replace h := h a16 S15 e_S15 I17 e_I17
  have hM9 := hN
  have hN9 : S15.2.1 = 24 := by rw [e_S15]; show _ + 1 = 24; rw [hN]
  have hc9 : q_cl S15 := by rw [e_S15]; exact q_cl_new hc _ _ _
  have hE9 : Ex S S15 := by rw [e_S15]; exact hE.tr (Ex.new _ (by rw [hN]; decide) _ _ _)
  have hR9 : q_Rk 0 S S15 := by rw [e_S15]; exact hR.new hE.1 _ _ _
  have hK09 : S15.2.2.1 0 = 7 := by rw [e_S15]; exact (if_neg (by rw [hN]; decide)).trans hK0
  have hK19 : S15.2.2.1 1 = 4 := by rw [e_S15]; exact (if_neg (by rw [hN]; decide)).trans hK1
  have hR0_09 : S15.2.2.2.2 0 0 = some 1 := by rw [e_S15]; exact (congrFun (if_neg (by rw [hN]; decide)) _).trans hR0_0
  have hK159 : S15.2.2.1 15 = 2 := by rw [e_S15]; exact (if_neg (by rw [hN]; decide)).trans hK15
  have hR0_19 : S15.2.2.2.2 0 1 = some 15 := by rw [e_S15]; exact (congrFun (if_neg (by rw [hN]; decide)) _).trans hR0_1
  clear hc hE hR hK0 hK1 hK15  hR0_0 hR0_1
  have hN := hN9
  have hc := hc9
  have hE := hE9
  have hR := hR9
  have hK0 := hK09
  have hK1 := hK19
  have hR0_0 := hR0_09
  have hK15 := hK159
  have hR0_1 := hR0_19
  have hK23 : S15.2.2.1 23 = 0 := by rw [e_S15]; exact if_pos hM9.symm
  clear hM9
  refine V_dup dX7_init_34 rfl ?_
  refine V_aload_n dX7_init_35 rfl rfl ?_
  refine V_getr dX7_init_36 fl_RX7_10 (by rw [hN]; decide) hK0 rfl hR0_0 ?_
  refine V_aload_n dX7_init_39 rfl rfl ?_
  refine V_getr dX7_init_40 fl_RX7_21 (by rw [hN]; decide) hK0 rfl hR0_1 ?_
  refine V_callIk (st := [.ref 23, .ref 0]) [.ref 1, .ref 15] dX7_init_43 ok_mX0_init rfl ml_RX7_27 in_mX0_init rfl rfl (Nat.le_of_ble_eq_true rfl) (by decide) (by decide) (by decide) (q_vbn hN rfl) (q_vbn hN rfl) (s_X0_init_at23 hN hc hK23 h) (fun S18 I19 J20 hE8 hc8 hN8 hR8 h => ?_)
  have hN9 : S18.2.1 = 30 := by rw [hN8, hN]
  have hE9 := hE.tr hE8
  have hR9 := hR.call hE hR8 (by rw [hN0]; decide)
  have hK09 : S18.2.2.1 0 = 7 := (hE8.2.1 0 (by rw [hN]; decide)).2.1.trans hK0
  have hK19 : S18.2.2.1 1 = 4 := (hE8.2.1 1 (by rw [hN]; decide)).2.1.trans hK1
  have hR0_09 : S18.2.2.2.2 0 0 = some 1 := (congrFun (hR8 0 (by rw [hN]; decide) (by decide)) _).trans hR0_0
  have hK159 : S18.2.2.1 15 = 2 := (hE8.2.1 15 (by rw [hN]; decide)).2.1.trans hK15
  have hR0_19 : S18.2.2.2.2 0 1 = some 15 := (congrFun (hR8 0 (by rw [hN]; decide) (by decide)) _).trans hR0_1
  have hK239 : S18.2.2.1 23 = 0 := (hE8.2.1 23 (by rw [hN]; decide)).2.1.trans hK23
  clear hc hE hR hK0 hK1 hK15 hK23  hR0_0 hR0_1
  have hN := hN9
  have hc := hc8
  have hE := hE9
  have hR := hR9
  have hK0 := hK09
  have hK1 := hK19
  have hR0_0 := hR0_09
  have hK15 := hK159
  have hR0_1 := hR0_19
  have hK23 := hK239
  refine V_putF dX7_init_46 fl_RX7_30 rfl rfl rfl (by rw [hN]; decide) hK0 rfl (fun _ => rfl) (fun _ => rfl) ?_
  refine V_memS (fun S21 e_S21 => ?_)
  replace h := h S21 e_S21
  have hN9 : S21.2.1 = 30 := by rw [e_S21]; exact hN
  have hc9 : q_cl S21 := by rw [e_S21]; exact q_cl_put hc (by rw [hN]; decide)
  have hE9 : Ex S S21 := by rw [e_S21]; exact hE.tr (Ex.put _ _)
  have hR9 : q_Rk 0 S S21 := by rw [e_S21]; exact hR.put (Or.inl rfl)
  have hK09 : S21.2.2.1 0 = 7 := by rw [e_S21]; exact hK0
  have hK19 : S21.2.2.1 1 = 4 := by rw [e_S21]; exact hK1
  have hR0_09 : S21.2.2.2.2 0 0 = some 1 := by rw [e_S21]; exact (if_neg (by decide)).trans hR0_0
  have hK159 : S21.2.2.1 15 = 2 := by rw [e_S21]; exact hK15
  have hR0_19 : S21.2.2.2.2 0 1 = some 15 := by rw [e_S21]; exact (if_neg (by decide)).trans hR0_1
  have hK239 : S21.2.2.1 23 = 0 := by rw [e_S21]; exact hK23
  clear hc hE hR hK0 hK1 hK15 hK23  hR0_0 hR0_1
  have hN := hN9
  have hc := hc9
  have hE := hE9
  have hR := hR9
  have hK0 := hK09
  have hK1 := hK19
  have hR0_0 := hR0_09
  have hK15 := hK159
  have hR0_1 := hR0_19
  have hK23 := hK239
  have hR0_2 : S21.2.2.2.2 0 2 = some 23 := by rw [e_S21]; exact q_u2_s _ _ _ _
  refine V_aload_n dX7_init_49 rfl rfl ?_
  refine V_new (ci := 3) dX7_init_50 (by decide) cl_RX7_34 is_RX3 ii_RX3 (by rw [hN]; decide) hc (q_vbn hN rfl) (q_vbn hN rfl) (by decide) (by decide) (fun a23 => ?_)
  rw [hN]
  refine V_memS (fun S22 e_S22 => ?_)
  refine V_memI (fun I24 e_I24 => ?_)
  replace h := h a23 S22 e_S22 I24 e_I24
  have hM9 := hN
  have hN9 : S22.2.1 = 31 := by rw [e_S22]; show _ + 1 = 31; rw [hN]
  have hc9 : q_cl S22 := by rw [e_S22]; exact q_cl_new hc _ _ _
  have hE9 : Ex S S22 := by rw [e_S22]; exact hE.tr (Ex.new _ (by rw [hN]; decide) _ _ _)
  have hR9 : q_Rk 0 S S22 := by rw [e_S22]; exact hR.new hE.1 _ _ _
  have hK09 : S22.2.2.1 0 = 7 := by rw [e_S22]; exact (if_neg (by rw [hN]; decide)).trans hK0
  have hK19 : S22.2.2.1 1 = 4 := by rw [e_S22]; exact (if_neg (by rw [hN]; decide)).trans hK1
  have hR0_09 : S22.2.2.2.2 0 0 = some 1 := by rw [e_S22]; exact (congrFun (if_neg (by rw [hN]; decide)) _).trans hR0_0
  have hK159 : S22.2.2.1 15 = 2 := by rw [e_S22]; exact (if_neg (by rw [hN]; decide)).trans hK15
  have hR0_19 : S22.2.2.2.2 0 1 = some 15 := by rw [e_S22]; exact (congrFun (if_neg (by rw [hN]; decide)) _).trans hR0_1
  have hK239 : S22.2.2.1 23 = 0 := by rw [e_S22]; exact (if_neg (by rw [hN]; decide)).trans hK23
  have hR0_29 : S22.2.2.2.2 0 2 = some 23 := by rw [e_S22]; exact (congrFun (if_neg (by rw [hN]; decide)) _).trans hR0_2
  clear hc hE hR hK0 hK1 hK15 hK23  hR0_0 hR0_1 hR0_2
  have hN := hN9
  have hc := hc9
  have hE := hE9
  have hR := hR9
  have hK0 := hK09
  have hK1 := hK19
  have hR0_0 := hR0_09
  have hK15 := hK159
  have hR0_1 := hR0_19
  have hK23 := hK239
  have hR0_2 := hR0_29
  have hK30 : S22.2.2.1 30 = 3 := by rw [e_S22]; exact if_pos hM9.symm
  clear hM9
  refine V_dup dX7_init_53 rfl ?_
  refine V_aload_n dX7_init_54 rfl rfl ?_
  refine V_getr dX7_init_55 fl_RX7_21 (by rw [hN]; decide) hK0 rfl hR0_1 ?_
  refine V_callIk (st := [.ref 30, .ref 0]) [.ref 15] dX7_init_58 ok_mX3_init rfl ml_RX7_36 in_mX3_init rfl rfl (Nat.le_of_ble_eq_true rfl) (by decide) (by decide) (by decide) (q_vbn hN rfl) (q_vbn hN rfl) (s_X3_init_at30 hN hc hK30 h) (fun S25 I26 J27 hE8 hc8 hN8 hR8 h => ?_)
  have hN9 : S25.2.1 = 37 := by rw [hN8, hN]
  have hE9 := hE.tr hE8
  have hR9 := hR.call hE hR8 (by rw [hN0]; decide)
  have hK09 : S25.2.2.1 0 = 7 := (hE8.2.1 0 (by rw [hN]; decide)).2.1.trans hK0
  have hK19 : S25.2.2.1 1 = 4 := (hE8.2.1 1 (by rw [hN]; decide)).2.1.trans hK1
  have hR0_09 : S25.2.2.2.2 0 0 = some 1 := (congrFun (hR8 0 (by rw [hN]; decide) (by decide)) _).trans hR0_0
  have hK159 : S25.2.2.1 15 = 2 := (hE8.2.1 15 (by rw [hN]; decide)).2.1.trans hK15
  have hR0_19 : S25.2.2.2.2 0 1 = some 15 := (congrFun (hR8 0 (by rw [hN]; decide) (by decide)) _).trans hR0_1
  have hK239 : S25.2.2.1 23 = 0 := (hE8.2.1 23 (by rw [hN]; decide)).2.1.trans hK23
  have hR0_29 : S25.2.2.2.2 0 2 = some 23 := (congrFun (hR8 0 (by rw [hN]; decide) (by decide)) _).trans hR0_2
  have hK309 : S25.2.2.1 30 = 3 := (hE8.2.1 30 (by rw [hN]; decide)).2.1.trans hK30
  clear hc hE hR hK0 hK1 hK15 hK23 hK30  hR0_0 hR0_1 hR0_2
  have hN := hN9
  have hc := hc8
  have hE := hE9
  have hR := hR9
  have hK0 := hK09
  have hK1 := hK19
  have hR0_0 := hR0_09
  have hK15 := hK159
  have hR0_1 := hR0_19
  have hK23 := hK239
  have hR0_2 := hR0_29
  have hK30 := hK309
  refine V_putF dX7_init_61 fl_RX7_39 rfl rfl rfl (by rw [hN]; decide) hK0 rfl (fun _ => rfl) (fun _ => rfl) ?_
  refine V_memS (fun S28 e_S28 => ?_)
  replace h := h S28 e_S28
  have hN9 : S28.2.1 = 37 := by rw [e_S28]; exact hN
  have hc9 : q_cl S28 := by rw [e_S28]; exact q_cl_put hc (by rw [hN]; decide)
  have hE9 : Ex S S28 := by rw [e_S28]; exact hE.tr (Ex.put _ _)
  have hR9 : q_Rk 0 S S28 := by rw [e_S28]; exact hR.put (Or.inl rfl)
  have hK09 : S28.2.2.1 0 = 7 := by rw [e_S28]; exact hK0
  have hK19 : S28.2.2.1 1 = 4 := by rw [e_S28]; exact hK1
  have hR0_09 : S28.2.2.2.2 0 0 = some 1 := by rw [e_S28]; exact (if_neg (by decide)).trans hR0_0
  have hK159 : S28.2.2.1 15 = 2 := by rw [e_S28]; exact hK15
  have hR0_19 : S28.2.2.2.2 0 1 = some 15 := by rw [e_S28]; exact (if_neg (by decide)).trans hR0_1
  have hK239 : S28.2.2.1 23 = 0 := by rw [e_S28]; exact hK23
  have hR0_29 : S28.2.2.2.2 0 2 = some 23 := by rw [e_S28]; exact (if_neg (by decide)).trans hR0_2
  have hK309 : S28.2.2.1 30 = 3 := by rw [e_S28]; exact hK30
  clear hc hE hR hK0 hK1 hK15 hK23 hK30  hR0_0 hR0_1 hR0_2
  have hN := hN9
  have hc := hc9
  have hE := hE9
  have hR := hR9
  have hK0 := hK09
  have hK1 := hK19
  have hR0_0 := hR0_09
  have hK15 := hK159
  have hR0_1 := hR0_19
  have hK23 := hK239
  have hR0_2 := hR0_29
  have hK30 := hK309
  have hR0_3 : S28.2.2.2.2 0 3 = some 30 := by rw [e_S28]; exact q_u2_s _ _ _ _
  refine V_aload_n dX7_init_64 rfl rfl ?_
  refine V_new (ci := 1) dX7_init_65 (by decide) cl_RX7_43 is_RX1 ii_RX1 (by rw [hN]; decide) hc (q_vbn hN rfl) (q_vbn hN rfl) (by decide) (by decide) (fun a30 => ?_)
  rw [hN]
  refine V_memS (fun S29 e_S29 => ?_)
  refine V_memI (fun I31 e_I31 => ?_)
  replace h := h a30 S29 e_S29 I31 e_I31
  have hM9 := hN
  have hN9 : S29.2.1 = 38 := by rw [e_S29]; show _ + 1 = 38; rw [hN]
  have hc9 : q_cl S29 := by rw [e_S29]; exact q_cl_new hc _ _ _
  have hE9 : Ex S S29 := by rw [e_S29]; exact hE.tr (Ex.new _ (by rw [hN]; decide) _ _ _)
  have hR9 : q_Rk 0 S S29 := by rw [e_S29]; exact hR.new hE.1 _ _ _
  have hK09 : S29.2.2.1 0 = 7 := by rw [e_S29]; exact (if_neg (by rw [hN]; decide)).trans hK0
  have hK19 : S29.2.2.1 1 = 4 := by rw [e_S29]; exact (if_neg (by rw [hN]; decide)).trans hK1
  have hR0_09 : S29.2.2.2.2 0 0 = some 1 := by rw [e_S29]; exact (congrFun (if_neg (by rw [hN]; decide)) _).trans hR0_0
  have hK159 : S29.2.2.1 15 = 2 := by rw [e_S29]; exact (if_neg (by rw [hN]; decide)).trans hK15
  have hR0_19 : S29.2.2.2.2 0 1 = some 15 := by rw [e_S29]; exact (congrFun (if_neg (by rw [hN]; decide)) _).trans hR0_1
  have hK239 : S29.2.2.1 23 = 0 := by rw [e_S29]; exact (if_neg (by rw [hN]; decide)).trans hK23
  have hR0_29 : S29.2.2.2.2 0 2 = some 23 := by rw [e_S29]; exact (congrFun (if_neg (by rw [hN]; decide)) _).trans hR0_2
  have hK309 : S29.2.2.1 30 = 3 := by rw [e_S29]; exact (if_neg (by rw [hN]; decide)).trans hK30
  have hR0_39 : S29.2.2.2.2 0 3 = some 30 := by rw [e_S29]; exact (congrFun (if_neg (by rw [hN]; decide)) _).trans hR0_3
  clear hc hE hR hK0 hK1 hK15 hK23 hK30  hR0_0 hR0_1 hR0_2 hR0_3
  have hN := hN9
  have hc := hc9
  have hE := hE9
  have hR := hR9
  have hK0 := hK09
  have hK1 := hK19
  have hR0_0 := hR0_09
  have hK15 := hK159
  have hR0_1 := hR0_19
  have hK23 := hK239
  have hR0_2 := hR0_29
  have hK30 := hK309
  have hR0_3 := hR0_39
  have hK37 : S29.2.2.1 37 = 1 := by rw [e_S29]; exact if_pos hM9.symm
  clear hM9
  refine V_dup dX7_init_68 rfl ?_
  refine V_aload_n dX7_init_69 rfl rfl ?_
  refine V_getr dX7_init_70 fl_RX7_10 (by rw [hN]; decide) hK0 rfl hR0_0 ?_
  refine V_callIk (st := [.ref 37, .ref 0]) [.ref 1] dX7_init_73 ok_mX1_init rfl ml_RX7_45 in_mX1_init rfl rfl (Nat.le_of_ble_eq_true rfl) (by decide) (by decide) (by decide) (q_vbn hN rfl) (q_vbn hN rfl) (s_X1_init_at37 hN hc hK37 h) (fun S32 I33 J34 hE8 hc8 hN8 hR8 h => ?_)
  have hN9 : S32.2.1 = 46 := by rw [hN8, hN]
  have hE9 := hE.tr hE8
  have hR9 := hR.call hE hR8 (by rw [hN0]; decide)
  have hK09 : S32.2.2.1 0 = 7 := (hE8.2.1 0 (by rw [hN]; decide)).2.1.trans hK0
  have hK19 : S32.2.2.1 1 = 4 := (hE8.2.1 1 (by rw [hN]; decide)).2.1.trans hK1
  have hR0_09 : S32.2.2.2.2 0 0 = some 1 := (congrFun (hR8 0 (by rw [hN]; decide) (by decide)) _).trans hR0_0
  have hK159 : S32.2.2.1 15 = 2 := (hE8.2.1 15 (by rw [hN]; decide)).2.1.trans hK15
  have hR0_19 : S32.2.2.2.2 0 1 = some 15 := (congrFun (hR8 0 (by rw [hN]; decide) (by decide)) _).trans hR0_1
  have hK239 : S32.2.2.1 23 = 0 := (hE8.2.1 23 (by rw [hN]; decide)).2.1.trans hK23
  have hR0_29 : S32.2.2.2.2 0 2 = some 23 := (congrFun (hR8 0 (by rw [hN]; decide) (by decide)) _).trans hR0_2
  have hK309 : S32.2.2.1 30 = 3 := (hE8.2.1 30 (by rw [hN]; decide)).2.1.trans hK30
  have hR0_39 : S32.2.2.2.2 0 3 = some 30 := (congrFun (hR8 0 (by rw [hN]; decide) (by decide)) _).trans hR0_3
  have hK379 : S32.2.2.1 37 = 1 := (hE8.2.1 37 (by rw [hN]; decide)).2.1.trans hK37
  clear hc hE hR hK0 hK1 hK15 hK23 hK30 hK37  hR0_0 hR0_1 hR0_2 hR0_3
  have hN := hN9
  have hc := hc8
  have hE := hE9
  have hR := hR9
  have hK0 := hK09
  have hK1 := hK19
  have hR0_0 := hR0_09
  have hK15 := hK159
  have hR0_1 := hR0_19
  have hK23 := hK239
  have hR0_2 := hR0_29
  have hK30 := hK309
  have hR0_3 := hR0_39
  have hK37 := hK379
  refine V_putF dX7_init_76 fl_RX7_46 rfl rfl rfl (by rw [hN]; decide) hK0 rfl (fun _ => rfl) (fun _ => rfl) ?_
  refine V_memS (fun S35 e_S35 => ?_)
  replace h := h S35 e_S35
  have hN9 : S35.2.1 = 46 := by rw [e_S35]; exact hN
  have hc9 : q_cl S35 := by rw [e_S35]; exact q_cl_put hc (by rw [hN]; decide)
  have hE9 : Ex S S35 := by rw [e_S35]; exact hE.tr (Ex.put _ _)
  have hR9 : q_Rk 0 S S35 := by rw [e_S35]; exact hR.put (Or.inl rfl)
  have hK09 : S35.2.2.1 0 = 7 := by rw [e_S35]; exact hK0
  have hK19 : S35.2.2.1 1 = 4 := by rw [e_S35]; exact hK1
  have hR0_09 : S35.2.2.2.2 0 0 = some 1 := by rw [e_S35]; exact (if_neg (by decide)).trans hR0_0
  have hK159 : S35.2.2.1 15 = 2 := by rw [e_S35]; exact hK15
  have hR0_19 : S35.2.2.2.2 0 1 = some 15 := by rw [e_S35]; exact (if_neg (by decide)).trans hR0_1
  have hK239 : S35.2.2.1 23 = 0 := by rw [e_S35]; exact hK23
  have hR0_29 : S35.2.2.2.2 0 2 = some 23 := by rw [e_S35]; exact (if_neg (by decide)).trans hR0_2
  have hK309 : S35.2.2.1 30 = 3 := by rw [e_S35]; exact hK30
  have hR0_39 : S35.2.2.2.2 0 3 = some 30 := by rw [e_S35]; exact (if_neg (by decide)).trans hR0_3
  have hK379 : S35.2.2.1 37 = 1 := by rw [e_S35]; exact hK37
  clear hc hE hR hK0 hK1 hK15 hK23 hK30 hK37  hR0_0 hR0_1 hR0_2 hR0_3
  have hN := hN9
  have hc := hc9
  have hE := hE9
  have hR := hR9
  have hK0 := hK09
  have hK1 := hK19
  have hR0_0 := hR0_09
  have hK15 := hK159
  have hR0_1 := hR0_19
  have hK23 := hK239
  have hR0_2 := hR0_29
  have hK30 := hK309
  have hR0_3 := hR0_39
  have hK37 := hK379
  have hR0_4 : S35.2.2.2.2 0 4 = some 37 := by rw [e_S35]; exact q_u2_s _ _ _ _
  refine V_aload_n dX7_init_79 rfl rfl ?_
  refine V_new (ci := 6) dX7_init_80 (by decide) cl_RX7_50 is_RX6 ii_RX6 (by rw [hN]; decide) hc (q_vbn hN rfl) (q_vbn hN rfl) (by decide) (by decide) (fun a37 => ?_)
  rw [hN]
  refine V_memS (fun S36 e_S36 => ?_)
  refine V_memI (fun I38 e_I38 => ?_)
  replace h := h a37 S36 e_S36 I38 e_I38
  have hM9 := hN
  have hN9 : S36.2.1 = 47 := by rw [e_S36]; show _ + 1 = 47; rw [hN]
  have hc9 : q_cl S36 := by rw [e_S36]; exact q_cl_new hc _ _ _
  have hE9 : Ex S S36 := by rw [e_S36]; exact hE.tr (Ex.new _ (by rw [hN]; decide) _ _ _)
  have hR9 : q_Rk 0 S S36 := by rw [e_S36]; exact hR.new hE.1 _ _ _
  have hK09 : S36.2.2.1 0 = 7 := by rw [e_S36]; exact (if_neg (by rw [hN]; decide)).trans hK0
  have hK19 : S36.2.2.1 1 = 4 := by rw [e_S36]; exact (if_neg (by rw [hN]; decide)).trans hK1
  have hR0_09 : S36.2.2.2.2 0 0 = some 1 := by rw [e_S36]; exact (congrFun (if_neg (by rw [hN]; decide)) _).trans hR0_0
  have hK159 : S36.2.2.1 15 = 2 := by rw [e_S36]; exact (if_neg (by rw [hN]; decide)).trans hK15
  have hR0_19 : S36.2.2.2.2 0 1 = some 15 := by rw [e_S36]; exact (congrFun (if_neg (by rw [hN]; decide)) _).trans hR0_1
  have hK239 : S36.2.2.1 23 = 0 := by rw [e_S36]; exact (if_neg (by rw [hN]; decide)).trans hK23
  have hR0_29 : S36.2.2.2.2 0 2 = some 23 := by rw [e_S36]; exact (congrFun (if_neg (by rw [hN]; decide)) _).trans hR0_2
  have hK309 : S36.2.2.1 30 = 3 := by rw [e_S36]; exact (if_neg (by rw [hN]; decide)).trans hK30
  have hR0_39 : S36.2.2.2.2 0 3 = some 30 := by rw [e_S36]; exact (congrFun (if_neg (by rw [hN]; decide)) _).trans hR0_3
  have hK379 : S36.2.2.1 37 = 1 := by rw [e_S36]; exact (if_neg (by rw [hN]; decide)).trans hK37
  have hR0_49 : S36.2.2.2.2 0 4 = some 37 := by rw [e_S36]; exact (congrFun (if_neg (by rw [hN]; decide)) _).trans hR0_4
  clear hc hE hR hK0 hK1 hK15 hK23 hK30 hK37  hR0_0 hR0_1 hR0_2 hR0_3 hR0_4
  have hN := hN9
  have hc := hc9
  have hE := hE9
  have hR := hR9
  have hK0 := hK09
  have hK1 := hK19
  have hR0_0 := hR0_09
  have hK15 := hK159
  have hR0_1 := hR0_19
  have hK23 := hK239
  have hR0_2 := hR0_29
  have hK30 := hK309
  have hR0_3 := hR0_39
  have hK37 := hK379
  have hR0_4 := hR0_49
  have hK46 : S36.2.2.1 46 = 6 := by rw [e_S36]; exact if_pos hM9.symm
  clear hM9
  refine V_dup dX7_init_83 rfl ?_
  refine V_aload_n dX7_init_84 rfl rfl ?_
  refine V_getr dX7_init_85 fl_RX7_10 (by rw [hN]; decide) hK0 rfl hR0_0 ?_
  refine V_callIk (st := [.ref 46, .ref 0]) [.ref 1] dX7_init_88 ok_mX6_init rfl ml_RX7_52 in_mX6_init rfl rfl (Nat.le_of_ble_eq_true rfl) (by decide) (by decide) (by decide) (q_vbn hN rfl) (q_vbn hN rfl) (s_X6_init_at46 hN hc hK46 h) (fun S39 I40 J41 hE8 hc8 hN8 hR8 h => ?_)
  have hN9 : S39.2.1 = 51 := by rw [hN8, hN]
  have hE9 := hE.tr hE8
  have hR9 := hR.call hE hR8 (by rw [hN0]; decide)
  have hK09 : S39.2.2.1 0 = 7 := (hE8.2.1 0 (by rw [hN]; decide)).2.1.trans hK0
  have hK19 : S39.2.2.1 1 = 4 := (hE8.2.1 1 (by rw [hN]; decide)).2.1.trans hK1
  have hR0_09 : S39.2.2.2.2 0 0 = some 1 := (congrFun (hR8 0 (by rw [hN]; decide) (by decide)) _).trans hR0_0
  have hK159 : S39.2.2.1 15 = 2 := (hE8.2.1 15 (by rw [hN]; decide)).2.1.trans hK15
  have hR0_19 : S39.2.2.2.2 0 1 = some 15 := (congrFun (hR8 0 (by rw [hN]; decide) (by decide)) _).trans hR0_1
  have hK239 : S39.2.2.1 23 = 0 := (hE8.2.1 23 (by rw [hN]; decide)).2.1.trans hK23
  have hR0_29 : S39.2.2.2.2 0 2 = some 23 := (congrFun (hR8 0 (by rw [hN]; decide) (by decide)) _).trans hR0_2
  have hK309 : S39.2.2.1 30 = 3 := (hE8.2.1 30 (by rw [hN]; decide)).2.1.trans hK30
  have hR0_39 : S39.2.2.2.2 0 3 = some 30 := (congrFun (hR8 0 (by rw [hN]; decide) (by decide)) _).trans hR0_3
  have hK379 : S39.2.2.1 37 = 1 := (hE8.2.1 37 (by rw [hN]; decide)).2.1.trans hK37
  have hR0_49 : S39.2.2.2.2 0 4 = some 37 := (congrFun (hR8 0 (by rw [hN]; decide) (by decide)) _).trans hR0_4
  have hK469 : S39.2.2.1 46 = 6 := (hE8.2.1 46 (by rw [hN]; decide)).2.1.trans hK46
  clear hc hE hR hK0 hK1 hK15 hK23 hK30 hK37 hK46  hR0_0 hR0_1 hR0_2 hR0_3 hR0_4
  have hN := hN9
  have hc := hc8
  have hE := hE9
  have hR := hR9
  have hK0 := hK09
  have hK1 := hK19
  have hR0_0 := hR0_09
  have hK15 := hK159
  have hR0_1 := hR0_19
  have hK23 := hK239
  have hR0_2 := hR0_29
  have hK30 := hK309
  have hR0_3 := hR0_39
  have hK37 := hK379
  have hR0_4 := hR0_49
  have hK46 := hK469
  refine V_putF dX7_init_91 fl_RX7_53 rfl rfl rfl (by rw [hN]; decide) hK0 rfl (fun _ => rfl) (fun _ => rfl) ?_
  refine V_memS (fun S42 e_S42 => ?_)
  replace h := h S42 e_S42
  have hN9 : S42.2.1 = 51 := by rw [e_S42]; exact hN
  have hc9 : q_cl S42 := by rw [e_S42]; exact q_cl_put hc (by rw [hN]; decide)
  have hE9 : Ex S S42 := by rw [e_S42]; exact hE.tr (Ex.put _ _)
  have hR9 : q_Rk 0 S S42 := by rw [e_S42]; exact hR.put (Or.inl rfl)
  have hK09 : S42.2.2.1 0 = 7 := by rw [e_S42]; exact hK0
  have hK19 : S42.2.2.1 1 = 4 := by rw [e_S42]; exact hK1
  have hR0_09 : S42.2.2.2.2 0 0 = some 1 := by rw [e_S42]; exact (if_neg (by decide)).trans hR0_0
  have hK159 : S42.2.2.1 15 = 2 := by rw [e_S42]; exact hK15
  have hR0_19 : S42.2.2.2.2 0 1 = some 15 := by rw [e_S42]; exact (if_neg (by decide)).trans hR0_1
  have hK239 : S42.2.2.1 23 = 0 := by rw [e_S42]; exact hK23
  have hR0_29 : S42.2.2.2.2 0 2 = some 23 := by rw [e_S42]; exact (if_neg (by decide)).trans hR0_2
  have hK309 : S42.2.2.1 30 = 3 := by rw [e_S42]; exact hK30
  have hR0_39 : S42.2.2.2.2 0 3 = some 30 := by rw [e_S42]; exact (if_neg (by decide)).trans hR0_3
  have hK379 : S42.2.2.1 37 = 1 := by rw [e_S42]; exact hK37
  have hR0_49 : S42.2.2.2.2 0 4 = some 37 := by rw [e_S42]; exact (if_neg (by decide)).trans hR0_4
  have hK469 : S42.2.2.1 46 = 6 := by rw [e_S42]; exact hK46
  clear hc hE hR hK0 hK1 hK15 hK23 hK30 hK37 hK46  hR0_0 hR0_1 hR0_2 hR0_3 hR0_4
  have hN := hN9
  have hc := hc9
  have hE := hE9
  have hR := hR9
  have hK0 := hK09
  have hK1 := hK19
  have hR0_0 := hR0_09
  have hK15 := hK159
  have hR0_1 := hR0_19
  have hK23 := hK239
  have hR0_2 := hR0_29
  have hK30 := hK309
  have hR0_3 := hR0_39
  have hK37 := hK379
  have hR0_4 := hR0_49
  have hK46 := hK469
  have hR0_5 : S42.2.2.2.2 0 5 = some 46 := by rw [e_S42]; exact q_u2_s _ _ _ _
  refine V_aload_n dX7_init_94 rfl rfl ?_
  refine V_ldc dX7_init_95 co_RX7_57 ?_
  refine V_puti dX7_init_97 fl_RX7_58 rfl (by rw [hN]; decide) hK0 rfl rfl rfl ?_
  refine V_memI (fun I43 e_I43 => ?_)
  replace h := h I43 e_I43
  exact V_vret dX7_init_100 rfl (by decide) (by decide) ⟨rfl, hE, hc, by rw [hN, hN0], hR, h⟩
def w_X8_init_at51 (S : QS) (I : QI) (J : QJ) (post : QS → QI → QJ → Prop) : Prop := (∀ a2 : Nat, ∀ S1 : QS, S1 = q_nS S a2 9 4 → (∀ I3 : QI, I3 = q_rw I 52 (fun _ => 0) → (∀ S4 : QS, S4 = q_sR S1 (q_u2 S1.2.2.2.2 51 2 (some 52)) → (∀ a6 : Nat, ∀ S5 : QS, S5 = q_nS S4 a6 9 4 → (∀ I7 : QI, I7 = q_rw I3 53 (fun _ => 0) → (∀ S8 : QS, S8 = q_sR S5 (q_u2 S5.2.2.2.2 51 3 (some 53)) → (∀ a10 : Nat, ∀ S9 : QS, S9 = q_nS S8 a10 9 120 → (∀ I11 : QI, I11 = q_rw I7 54 (fun _ => 0) → (∀ S12 : QS, S12 = q_sR S9 (q_u2 S9.2.2.2.2 51 4 (some 54)) → (∀ a14 : Nat, ∀ S13 : QS, S13 = q_nS S12 a14 9 24 → (∀ I15 : QI, I15 = q_rw I11 55 (fun _ => 0) → (∀ S16 : QS, S16 = q_sR S13 (q_u2 S13.2.2.2.2 51 6 (some 55)) → (∀ a18 : Nat, ∀ S17 : QS, S17 = q_nS S16 a18 9 24 → (∀ I19 : QI, I19 = q_rw I15 56 (fun _ => 0) → (∀ S20 : QS, S20 = q_sR S17 (q_u2 S17.2.2.2.2 51 7 (some 56)) → (∀ a22 : Nat, ∀ S21 : QS, S21 = q_nS S20 a22 9 24 → (∀ I23 : QI, I23 = q_rw I19 57 (fun _ => 0) → (∀ S24 : QS, S24 = q_sR S21 (q_u2 S21.2.2.2.2 51 8 (some 57)) → (∀ a26 : Nat, ∀ S25 : QS, S25 = q_nS S24 a26 9 24 → (∀ I27 : QI, I27 = q_rw I23 58 (fun _ => 0) → (∀ S28 : QS, S28 = q_sR S25 (q_u2 S25.2.2.2.2 51 9 (some 58)) → (∀ a30 : Nat, ∀ S29 : QS, S29 = q_nS S28 a30 9 24 → (∀ I31 : QI, I31 = q_rw I27 59 (fun _ => 0) → (∀ S32 : QS, S32 = q_sR S29 (q_u2 S29.2.2.2.2 51 10 (some 59)) → (∀ a34 : Nat, ∀ S33 : QS, S33 = q_nS S32 a34 9 24 → (∀ I35 : QI, I35 = q_rw I31 60 (fun _ => 0) → (∀ S36 : QS, S36 = q_sR S33 (q_u2 S33.2.2.2.2 51 11 (some 60)) → (∀ a38 : Nat, ∀ S37 : QS, S37 = q_nS S36 a38 9 24 → (∀ I39 : QI, I39 = q_rw I35 61 (fun _ => 0) → (∀ S40 : QS, S40 = q_sR S37 (q_u2 S37.2.2.2.2 51 12 (some 61)) → (∀ I41 : QI, I41 = q_u2 I39 51 13 100000 → (∀ a43 : Nat, ∀ S42 : QS, S42 = q_nS S40 a43 9 24 → (∀ I44 : QI, I44 = q_rw I41 62 (fun _ => 0) → (∀ S45 : QS, S45 = q_sR S42 (q_u2 S42.2.2.2.2 51 15 (some 62)) → (∀ a47 : Nat, ∀ S46 : QS, S46 = q_nS S45 a47 9 16 → (∀ I48 : QI, I48 = q_rw I44 63 (fun _ => 0) → (∀ S49 : QS, S49 = q_sR S46 (q_u2 S46.2.2.2.2 51 17 (some 63)) → (∀ a51 : Nat, ∀ S50 : QS, S50 = q_nS S49 a51 9 24 → (∀ I52 : QI, I52 = q_rw I48 64 (fun _ => 0) → (∀ S53 : QS, S53 = q_sR S50 (q_u2 S50.2.2.2.2 51 18 (some 64)) → (∀ a55 : Nat, ∀ S54 : QS, S54 = q_nS S53 a55 10 24 → (∀ J56 : QJ, J56 = q_rw J 65 (fun _ => 0) → (∀ S57 : QS, S57 = q_sR S54 (q_u2 S54.2.2.2.2 51 19 (some 65)) → (∀ a59 : Nat, ∀ S58 : QS, S58 = q_nS S57 a59 9 28800 → (∀ I60 : QI, I60 = q_rw I52 66 (fun _ => 0) → (∀ S61 : QS, S61 = q_sR S58 (q_u2 S58.2.2.2.2 51 20 (some 66)) → (∀ a63 : Nat, ∀ S62 : QS, S62 = q_nS S61 a63 11 24 → (∀ I64 : QI, I64 = q_rw I60 67 (fun _ => 0) → (∀ S65 : QS, S65 = q_sR S62 (q_u2 S62.2.2.2.2 51 21 (some 67)) → (∀ a67 : Nat, ∀ S66 : QS, S66 = q_nS S65 a67 11 400 → (∀ I68 : QI, I68 = q_rw I64 68 (fun _ => 0) → (∀ S69 : QS, S69 = q_sR S66 (q_u2 S66.2.2.2.2 51 22 (some 68)) → (∀ a71 : Nat, ∀ S70 : QS, S70 = q_nS S69 a71 9 1200 → (∀ I72 : QI, I72 = q_rw I68 69 (fun _ => 0) → (∀ S73 : QS, S73 = q_sR S70 (q_u2 S70.2.2.2.2 51 23 (some 69)) → (∀ a75 : Nat, ∀ S74 : QS, S74 = q_nS S73 a75 9 64 → (∀ I76 : QI, I76 = q_rw I72 70 (fun _ => 0) → (∀ S77 : QS, S77 = q_sR S74 (q_u2 S74.2.2.2.2 51 25 (some 70)) → (∀ a79 : Nat, ∀ S78 : QS, S78 = q_nS S77 a79 9 64 → (∀ I80 : QI, I80 = q_rw I76 71 (fun _ => 0) → (∀ S81 : QS, S81 = q_sR S78 (q_u2 S78.2.2.2.2 51 26 (some 71)) → (∀ a83 : Nat, ∀ S82 : QS, S82 = q_nS S81 a83 9 64 → (∀ I84 : QI, I84 = q_rw I80 72 (fun _ => 0) → (∀ S85 : QS, S85 = q_sR S82 (q_u2 S82.2.2.2.2 51 28 (some 72)) → (∀ a87 : Nat, ∀ S86 : QS, S86 = q_nS S85 a87 9 64 → (∀ I88 : QI, I88 = q_rw I84 73 (fun _ => 0) → (∀ S89 : QS, S89 = q_sR S86 (q_u2 S86.2.2.2.2 51 29 (some 73)) → (∀ a91 : Nat, ∀ S90 : QS, S90 = q_nS S89 a91 9 64 → (∀ I92 : QI, I92 = q_rw I88 74 (fun _ => 0) → (∀ S93 : QS, S93 = q_sR S90 (q_u2 S90.2.2.2.2 51 30 (some 74)) → (∀ a95 : Nat, ∀ S94 : QS, S94 = q_nS S93 a95 9 24 → (∀ I96 : QI, I96 = q_rw I92 75 (fun _ => 0) → (∀ S97 : QS, S97 = q_sR S94 (q_u2 S94.2.2.2.2 51 31 (some 75)) → (∀ a99 : Nat, ∀ S98 : QS, S98 = q_nS S97 a99 9 16 → (∀ I100 : QI, I100 = q_rw I96 76 (fun _ => 0) → (∀ S101 : QS, S101 = q_sR S98 (q_u2 S98.2.2.2.2 51 33 (some 76)) → (∀ a103 : Nat, ∀ S102 : QS, S102 = q_nS S101 a103 9 16 → (∀ I104 : QI, I104 = q_rw I100 77 (fun _ => 0) → (∀ S105 : QS, S105 = q_sR S102 (q_u2 S102.2.2.2.2 51 34 (some 77)) → (∀ a107 : Nat, ∀ S106 : QS, S106 = q_nS S105 a107 11 10 → (∀ I108 : QI, I108 = q_rw I104 78 (fun _ => 0) → (∀ S109 : QS, S109 = q_sR S106 (q_u2 S106.2.2.2.2 51 35 (some 78)) → (post S109 I108 J56)))))))))))))))))))))))))))))))))))))))))))))))))))))))))))))))))))))))))))))))))))
set_option maxRecDepth 100000 in
set_option maxHeartbeats 4000000 in
theorem s_X8_init_at51 {X : QX} {S : QS} {I : QI} {J : QJ} {post : QS → QI → QJ → Prop} (hN : S.2.1 = 52) (hc : q_cl S) (hK51 : S.2.2.1 51 = 8) (h : w_X8_init_at51 S I J post) : CX X mX8_init 1 27 31194 [.ref 51] S I J (q_Pk 51 S 27 post) := by
  have hN0 := hN
  have hE : Ex S S := Ex.rf
  have hR : q_Rk 51 S S := q_Rk.rf
  refine CX.of (lo := [(0, .ref 51)]) ok_mX8_init rfl (Nat.le_of_ble_eq_true rfl) rfl ?_
  replace h : (∀ a2 : Nat, ∀ S1 : QS, S1 = q_nS S a2 9 4 → (∀ I3 : QI, I3 = q_rw I 52 (fun _ => 0) → (∀ S4 : QS, S4 = q_sR S1 (q_u2 S1.2.2.2.2 51 2 (some 52)) → (∀ a6 : Nat, ∀ S5 : QS, S5 = q_nS S4 a6 9 4 → (∀ I7 : QI, I7 = q_rw I3 53 (fun _ => 0) → (∀ S8 : QS, S8 = q_sR S5 (q_u2 S5.2.2.2.2 51 3 (some 53)) → (∀ a10 : Nat, ∀ S9 : QS, S9 = q_nS S8 a10 9 120 → (∀ I11 : QI, I11 = q_rw I7 54 (fun _ => 0) → (∀ S12 : QS, S12 = q_sR S9 (q_u2 S9.2.2.2.2 51 4 (some 54)) → (∀ a14 : Nat, ∀ S13 : QS, S13 = q_nS S12 a14 9 24 → (∀ I15 : QI, I15 = q_rw I11 55 (fun _ => 0) → (∀ S16 : QS, S16 = q_sR S13 (q_u2 S13.2.2.2.2 51 6 (some 55)) → (∀ a18 : Nat, ∀ S17 : QS, S17 = q_nS S16 a18 9 24 → (∀ I19 : QI, I19 = q_rw I15 56 (fun _ => 0) → (∀ S20 : QS, S20 = q_sR S17 (q_u2 S17.2.2.2.2 51 7 (some 56)) → (∀ a22 : Nat, ∀ S21 : QS, S21 = q_nS S20 a22 9 24 → (∀ I23 : QI, I23 = q_rw I19 57 (fun _ => 0) → (∀ S24 : QS, S24 = q_sR S21 (q_u2 S21.2.2.2.2 51 8 (some 57)) → (∀ a26 : Nat, ∀ S25 : QS, S25 = q_nS S24 a26 9 24 → (∀ I27 : QI, I27 = q_rw I23 58 (fun _ => 0) → (∀ S28 : QS, S28 = q_sR S25 (q_u2 S25.2.2.2.2 51 9 (some 58)) → (∀ a30 : Nat, ∀ S29 : QS, S29 = q_nS S28 a30 9 24 → (∀ I31 : QI, I31 = q_rw I27 59 (fun _ => 0) → (∀ S32 : QS, S32 = q_sR S29 (q_u2 S29.2.2.2.2 51 10 (some 59)) → (∀ a34 : Nat, ∀ S33 : QS, S33 = q_nS S32 a34 9 24 → (∀ I35 : QI, I35 = q_rw I31 60 (fun _ => 0) → (∀ S36 : QS, S36 = q_sR S33 (q_u2 S33.2.2.2.2 51 11 (some 60)) → (∀ a38 : Nat, ∀ S37 : QS, S37 = q_nS S36 a38 9 24 → (∀ I39 : QI, I39 = q_rw I35 61 (fun _ => 0) → (∀ S40 : QS, S40 = q_sR S37 (q_u2 S37.2.2.2.2 51 12 (some 61)) → (∀ I41 : QI, I41 = q_u2 I39 51 13 100000 → (∀ a43 : Nat, ∀ S42 : QS, S42 = q_nS S40 a43 9 24 → (∀ I44 : QI, I44 = q_rw I41 62 (fun _ => 0) → (∀ S45 : QS, S45 = q_sR S42 (q_u2 S42.2.2.2.2 51 15 (some 62)) → (∀ a47 : Nat, ∀ S46 : QS, S46 = q_nS S45 a47 9 16 → (∀ I48 : QI, I48 = q_rw I44 63 (fun _ => 0) → (∀ S49 : QS, S49 = q_sR S46 (q_u2 S46.2.2.2.2 51 17 (some 63)) → (∀ a51 : Nat, ∀ S50 : QS, S50 = q_nS S49 a51 9 24 → (∀ I52 : QI, I52 = q_rw I48 64 (fun _ => 0) → (∀ S53 : QS, S53 = q_sR S50 (q_u2 S50.2.2.2.2 51 18 (some 64)) → (∀ a55 : Nat, ∀ S54 : QS, S54 = q_nS S53 a55 10 24 → (∀ J56 : QJ, J56 = q_rw J 65 (fun _ => 0) → (∀ S57 : QS, S57 = q_sR S54 (q_u2 S54.2.2.2.2 51 19 (some 65)) → (∀ a59 : Nat, ∀ S58 : QS, S58 = q_nS S57 a59 9 28800 → (∀ I60 : QI, I60 = q_rw I52 66 (fun _ => 0) → (∀ S61 : QS, S61 = q_sR S58 (q_u2 S58.2.2.2.2 51 20 (some 66)) → (∀ a63 : Nat, ∀ S62 : QS, S62 = q_nS S61 a63 11 24 → (∀ I64 : QI, I64 = q_rw I60 67 (fun _ => 0) → (∀ S65 : QS, S65 = q_sR S62 (q_u2 S62.2.2.2.2 51 21 (some 67)) → (∀ a67 : Nat, ∀ S66 : QS, S66 = q_nS S65 a67 11 400 → (∀ I68 : QI, I68 = q_rw I64 68 (fun _ => 0) → (∀ S69 : QS, S69 = q_sR S66 (q_u2 S66.2.2.2.2 51 22 (some 68)) → (∀ a71 : Nat, ∀ S70 : QS, S70 = q_nS S69 a71 9 1200 → (∀ I72 : QI, I72 = q_rw I68 69 (fun _ => 0) → (∀ S73 : QS, S73 = q_sR S70 (q_u2 S70.2.2.2.2 51 23 (some 69)) → (∀ a75 : Nat, ∀ S74 : QS, S74 = q_nS S73 a75 9 64 → (∀ I76 : QI, I76 = q_rw I72 70 (fun _ => 0) → (∀ S77 : QS, S77 = q_sR S74 (q_u2 S74.2.2.2.2 51 25 (some 70)) → (∀ a79 : Nat, ∀ S78 : QS, S78 = q_nS S77 a79 9 64 → (∀ I80 : QI, I80 = q_rw I76 71 (fun _ => 0) → (∀ S81 : QS, S81 = q_sR S78 (q_u2 S78.2.2.2.2 51 26 (some 71)) → (∀ a83 : Nat, ∀ S82 : QS, S82 = q_nS S81 a83 9 64 → (∀ I84 : QI, I84 = q_rw I80 72 (fun _ => 0) → (∀ S85 : QS, S85 = q_sR S82 (q_u2 S82.2.2.2.2 51 28 (some 72)) → (∀ a87 : Nat, ∀ S86 : QS, S86 = q_nS S85 a87 9 64 → (∀ I88 : QI, I88 = q_rw I84 73 (fun _ => 0) → (∀ S89 : QS, S89 = q_sR S86 (q_u2 S86.2.2.2.2 51 29 (some 73)) → (∀ a91 : Nat, ∀ S90 : QS, S90 = q_nS S89 a91 9 64 → (∀ I92 : QI, I92 = q_rw I88 74 (fun _ => 0) → (∀ S93 : QS, S93 = q_sR S90 (q_u2 S90.2.2.2.2 51 30 (some 74)) → (∀ a95 : Nat, ∀ S94 : QS, S94 = q_nS S93 a95 9 24 → (∀ I96 : QI, I96 = q_rw I92 75 (fun _ => 0) → (∀ S97 : QS, S97 = q_sR S94 (q_u2 S94.2.2.2.2 51 31 (some 75)) → (∀ a99 : Nat, ∀ S98 : QS, S98 = q_nS S97 a99 9 16 → (∀ I100 : QI, I100 = q_rw I96 76 (fun _ => 0) → (∀ S101 : QS, S101 = q_sR S98 (q_u2 S98.2.2.2.2 51 33 (some 76)) → (∀ a103 : Nat, ∀ S102 : QS, S102 = q_nS S101 a103 9 16 → (∀ I104 : QI, I104 = q_rw I100 77 (fun _ => 0) → (∀ S105 : QS, S105 = q_sR S102 (q_u2 S102.2.2.2.2 51 34 (some 77)) → (∀ a107 : Nat, ∀ S106 : QS, S106 = q_nS S105 a107 11 10 → (∀ I108 : QI, I108 = q_rw I104 78 (fun _ => 0) → (∀ S109 : QS, S109 = q_sR S106 (q_u2 S106.2.2.2.2 51 35 (some 78)) → (post S109 I108 J56))))))))))))))))))))))))))))))))))))))))))))))))))))))))))))))))))))))))))))))))))) := h
  refine V_aload_n dX8_init_0 rfl rfl ?_
  refine V_objInit dX8_init_1 ml_RX8_1 ob_in ob_co (Nat.le_of_ble_eq_true rfl) ?_
  refine V_aload_n dX8_init_4 rfl rfl ?_
  refine V_iconst (v := 4) dX8_init_5 (by decide) ?_
  refine V_newI (z := 4) dX8_init_6 ac_int (by decide) (by decide) (by decide) (by rw [hN]; decide) hc (q_vbn hN rfl) (q_vbn hN rfl) (by decide) (by decide) (fun a2 => ?_)
  rw [hN]
  refine V_memS (fun S1 e_S1 => ?_)
  refine V_memI (fun I3 e_I3 => ?_)
  replace h := h a2 S1 e_S1 I3 e_I3
  have hM9 := hN
  have hN9 : S1.2.1 = 53 := by rw [e_S1]; show _ + 1 = 53; rw [hN]
  have hc9 : q_cl S1 := by rw [e_S1]; exact q_cl_new hc _ _ _
  have hE9 : Ex S S1 := by rw [e_S1]; exact hE.tr (Ex.new _ (by rw [hN]; decide) _ _ _)
  have hR9 : q_Rk 51 S S1 := by rw [e_S1]; exact hR.new hE.1 _ _ _
  have hK519 : S1.2.2.1 51 = 8 := by rw [e_S1]; exact (if_neg (by rw [hN]; decide)).trans hK51
  clear hc hE hR hK51  
  have hN := hN9
  have hc := hc9
  have hE := hE9
  have hR := hR9
  have hK51 := hK519
  clear hM9
  refine V_putF dX8_init_8 fl_RX8_9 rfl rfl rfl (by rw [hN]; decide) hK51 rfl (fun _ => rfl) (fun _ => rfl) ?_
  refine V_memS (fun S4 e_S4 => ?_)
  replace h := h S4 e_S4
  have hN9 : S4.2.1 = 53 := by rw [e_S4]; exact hN
  have hc9 : q_cl S4 := by rw [e_S4]; exact q_cl_put hc (by rw [hN]; decide)
  have hE9 : Ex S S4 := by rw [e_S4]; exact hE.tr (Ex.put _ _)
  have hR9 : q_Rk 51 S S4 := by rw [e_S4]; exact hR.put (Or.inl rfl)
  have hK519 : S4.2.2.1 51 = 8 := by rw [e_S4]; exact hK51
  clear hc hE hR hK51  
  have hN := hN9
  have hc := hc9
  have hE := hE9
  have hR := hR9
  have hK51 := hK519
  refine V_aload_n dX8_init_11 rfl rfl ?_
  refine V_iconst (v := 4) dX8_init_12 (by decide) ?_
  refine V_newI (z := 4) dX8_init_13 ac_int (by decide) (by decide) (by decide) (by rw [hN]; decide) hc (q_vbn hN rfl) (q_vbn hN rfl) (by decide) (by decide) (fun a6 => ?_)
  rw [hN]
  refine V_memS (fun S5 e_S5 => ?_)
  refine V_memI (fun I7 e_I7 => ?_)
  replace h := h a6 S5 e_S5 I7 e_I7
  have hM9 := hN
  have hN9 : S5.2.1 = 54 := by rw [e_S5]; show _ + 1 = 54; rw [hN]
  have hc9 : q_cl S5 := by rw [e_S5]; exact q_cl_new hc _ _ _
  have hE9 : Ex S S5 := by rw [e_S5]; exact hE.tr (Ex.new _ (by rw [hN]; decide) _ _ _)
  have hR9 : q_Rk 51 S S5 := by rw [e_S5]; exact hR.new hE.1 _ _ _
  have hK519 : S5.2.2.1 51 = 8 := by rw [e_S5]; exact (if_neg (by rw [hN]; decide)).trans hK51
  clear hc hE hR hK51  
  have hN := hN9
  have hc := hc9
  have hE := hE9
  have hR := hR9
  have hK51 := hK519
  clear hM9
  refine V_putF dX8_init_15 fl_RX8_13 rfl rfl rfl (by rw [hN]; decide) hK51 rfl (fun _ => rfl) (fun _ => rfl) ?_
  refine V_memS (fun S8 e_S8 => ?_)
  replace h := h S8 e_S8
  have hN9 : S8.2.1 = 54 := by rw [e_S8]; exact hN
  have hc9 : q_cl S8 := by rw [e_S8]; exact q_cl_put hc (by rw [hN]; decide)
  have hE9 : Ex S S8 := by rw [e_S8]; exact hE.tr (Ex.put _ _)
  have hR9 : q_Rk 51 S S8 := by rw [e_S8]; exact hR.put (Or.inl rfl)
  have hK519 : S8.2.2.1 51 = 8 := by rw [e_S8]; exact hK51
  clear hc hE hR hK51  
  have hN := hN9
  have hc := hc9
  have hE := hE9
  have hR := hR9
  have hK51 := hK519
  refine V_aload_n dX8_init_18 rfl rfl ?_
  refine V_bipush (v := 120) dX8_init_19 (by decide) ?_
  refine V_newI (z := 120) dX8_init_21 ac_int (by decide) (by decide) (by decide) (by rw [hN]; decide) hc (q_vbn hN rfl) (q_vbn hN rfl) (by decide) (by decide) (fun a10 => ?_)
  rw [hN]
  refine V_memS (fun S9 e_S9 => ?_)
  refine V_memI (fun I11 e_I11 => ?_)
  replace h := h a10 S9 e_S9 I11 e_I11
  have hM9 := hN
  have hN9 : S9.2.1 = 55 := by rw [e_S9]; show _ + 1 = 55; rw [hN]
  have hc9 : q_cl S9 := by rw [e_S9]; exact q_cl_new hc _ _ _
  have hE9 : Ex S S9 := by rw [e_S9]; exact hE.tr (Ex.new _ (by rw [hN]; decide) _ _ _)
  have hR9 : q_Rk 51 S S9 := by rw [e_S9]; exact hR.new hE.1 _ _ _
  have hK519 : S9.2.2.1 51 = 8 := by rw [e_S9]; exact (if_neg (by rw [hN]; decide)).trans hK51
  clear hc hE hR hK51  
  have hN := hN9
  have hc := hc9
  have hE := hE9
  have hR := hR9
  have hK51 := hK519
  clear hM9
  refine V_putF dX8_init_23 fl_RX8_16 rfl rfl rfl (by rw [hN]; decide) hK51 rfl (fun _ => rfl) (fun _ => rfl) ?_
  refine V_memS (fun S12 e_S12 => ?_)
  replace h := h S12 e_S12
  have hN9 : S12.2.1 = 55 := by rw [e_S12]; exact hN
  have hc9 : q_cl S12 := by rw [e_S12]; exact q_cl_put hc (by rw [hN]; decide)
  have hE9 : Ex S S12 := by rw [e_S12]; exact hE.tr (Ex.put _ _)
  have hR9 : q_Rk 51 S S12 := by rw [e_S12]; exact hR.put (Or.inl rfl)
  have hK519 : S12.2.2.1 51 = 8 := by rw [e_S12]; exact hK51
  clear hc hE hR hK51  
  have hN := hN9
  have hc := hc9
  have hE := hE9
  have hR := hR9
  have hK51 := hK519
  refine V_aload_n dX8_init_26 rfl rfl ?_
  refine V_bipush (v := 24) dX8_init_27 (by decide) ?_
  refine V_newI (z := 24) dX8_init_29 ac_int (by decide) (by decide) (by decide) (by rw [hN]; decide) hc (q_vbn hN rfl) (q_vbn hN rfl) (by decide) (by decide) (fun a14 => ?_)
  rw [hN]
  refine V_memS (fun S13 e_S13 => ?_)
  refine V_memI (fun I15 e_I15 => ?_)
  replace h := h a14 S13 e_S13 I15 e_I15
  have hM9 := hN
  have hN9 : S13.2.1 = 56 := by rw [e_S13]; show _ + 1 = 56; rw [hN]
  have hc9 : q_cl S13 := by rw [e_S13]; exact q_cl_new hc _ _ _
  have hE9 : Ex S S13 := by rw [e_S13]; exact hE.tr (Ex.new _ (by rw [hN]; decide) _ _ _)
  have hR9 : q_Rk 51 S S13 := by rw [e_S13]; exact hR.new hE.1 _ _ _
  have hK519 : S13.2.2.1 51 = 8 := by rw [e_S13]; exact (if_neg (by rw [hN]; decide)).trans hK51
  clear hc hE hR hK51  
  have hN := hN9
  have hc := hc9
  have hE := hE9
  have hR := hR9
  have hK51 := hK519
  clear hM9
  refine V_putF dX8_init_31 fl_RX8_19 rfl rfl rfl (by rw [hN]; decide) hK51 rfl (fun _ => rfl) (fun _ => rfl) ?_
  refine V_memS (fun S16 e_S16 => ?_)
  replace h := h S16 e_S16
  have hN9 : S16.2.1 = 56 := by rw [e_S16]; exact hN
  have hc9 : q_cl S16 := by rw [e_S16]; exact q_cl_put hc (by rw [hN]; decide)
  have hE9 : Ex S S16 := by rw [e_S16]; exact hE.tr (Ex.put _ _)
  have hR9 : q_Rk 51 S S16 := by rw [e_S16]; exact hR.put (Or.inl rfl)
  have hK519 : S16.2.2.1 51 = 8 := by rw [e_S16]; exact hK51
  clear hc hE hR hK51  
  have hN := hN9
  have hc := hc9
  have hE := hE9
  have hR := hR9
  have hK51 := hK519
  refine V_aload_n dX8_init_34 rfl rfl ?_
  refine V_bipush (v := 24) dX8_init_35 (by decide) ?_
  refine V_newI (z := 24) dX8_init_37 ac_int (by decide) (by decide) (by decide) (by rw [hN]; decide) hc (q_vbn hN rfl) (q_vbn hN rfl) (by decide) (by decide) (fun a18 => ?_)
  rw [hN]
  refine V_memS (fun S17 e_S17 => ?_)
  refine V_memI (fun I19 e_I19 => ?_)
  replace h := h a18 S17 e_S17 I19 e_I19
  have hM9 := hN
  have hN9 : S17.2.1 = 57 := by rw [e_S17]; show _ + 1 = 57; rw [hN]
  have hc9 : q_cl S17 := by rw [e_S17]; exact q_cl_new hc _ _ _
  have hE9 : Ex S S17 := by rw [e_S17]; exact hE.tr (Ex.new _ (by rw [hN]; decide) _ _ _)
  have hR9 : q_Rk 51 S S17 := by rw [e_S17]; exact hR.new hE.1 _ _ _
  have hK519 : S17.2.2.1 51 = 8 := by rw [e_S17]; exact (if_neg (by rw [hN]; decide)).trans hK51
  clear hc hE hR hK51  
  have hN := hN9
  have hc := hc9
  have hE := hE9
  have hR := hR9
  have hK51 := hK519
  clear hM9
  refine V_putF dX8_init_39 fl_RX8_22 rfl rfl rfl (by rw [hN]; decide) hK51 rfl (fun _ => rfl) (fun _ => rfl) ?_
  refine V_memS (fun S20 e_S20 => ?_)
  replace h := h S20 e_S20
  have hN9 : S20.2.1 = 57 := by rw [e_S20]; exact hN
  have hc9 : q_cl S20 := by rw [e_S20]; exact q_cl_put hc (by rw [hN]; decide)
  have hE9 : Ex S S20 := by rw [e_S20]; exact hE.tr (Ex.put _ _)
  have hR9 : q_Rk 51 S S20 := by rw [e_S20]; exact hR.put (Or.inl rfl)
  have hK519 : S20.2.2.1 51 = 8 := by rw [e_S20]; exact hK51
  clear hc hE hR hK51  
  have hN := hN9
  have hc := hc9
  have hE := hE9
  have hR := hR9
  have hK51 := hK519
  refine V_aload_n dX8_init_42 rfl rfl ?_
  refine V_bipush (v := 24) dX8_init_43 (by decide) ?_
  refine V_newI (z := 24) dX8_init_45 ac_int (by decide) (by decide) (by decide) (by rw [hN]; decide) hc (q_vbn hN rfl) (q_vbn hN rfl) (by decide) (by decide) (fun a22 => ?_)
  rw [hN]
  refine V_memS (fun S21 e_S21 => ?_)
  refine V_memI (fun I23 e_I23 => ?_)
  replace h := h a22 S21 e_S21 I23 e_I23
  have hM9 := hN
  have hN9 : S21.2.1 = 58 := by rw [e_S21]; show _ + 1 = 58; rw [hN]
  have hc9 : q_cl S21 := by rw [e_S21]; exact q_cl_new hc _ _ _
  have hE9 : Ex S S21 := by rw [e_S21]; exact hE.tr (Ex.new _ (by rw [hN]; decide) _ _ _)
  have hR9 : q_Rk 51 S S21 := by rw [e_S21]; exact hR.new hE.1 _ _ _
  have hK519 : S21.2.2.1 51 = 8 := by rw [e_S21]; exact (if_neg (by rw [hN]; decide)).trans hK51
  clear hc hE hR hK51  
  have hN := hN9
  have hc := hc9
  have hE := hE9
  have hR := hR9
  have hK51 := hK519
  clear hM9
  refine V_putF dX8_init_47 fl_RX8_25 rfl rfl rfl (by rw [hN]; decide) hK51 rfl (fun _ => rfl) (fun _ => rfl) ?_
  refine V_memS (fun S24 e_S24 => ?_)
  replace h := h S24 e_S24
  have hN9 : S24.2.1 = 58 := by rw [e_S24]; exact hN
  have hc9 : q_cl S24 := by rw [e_S24]; exact q_cl_put hc (by rw [hN]; decide)
  have hE9 : Ex S S24 := by rw [e_S24]; exact hE.tr (Ex.put _ _)
  have hR9 : q_Rk 51 S S24 := by rw [e_S24]; exact hR.put (Or.inl rfl)
  have hK519 : S24.2.2.1 51 = 8 := by rw [e_S24]; exact hK51
  clear hc hE hR hK51  
  have hN := hN9
  have hc := hc9
  have hE := hE9
  have hR := hR9
  have hK51 := hK519
  refine V_aload_n dX8_init_50 rfl rfl ?_
  refine V_bipush (v := 24) dX8_init_51 (by decide) ?_
  refine V_newI (z := 24) dX8_init_53 ac_int (by decide) (by decide) (by decide) (by rw [hN]; decide) hc (q_vbn hN rfl) (q_vbn hN rfl) (by decide) (by decide) (fun a26 => ?_)
  rw [hN]
  refine V_memS (fun S25 e_S25 => ?_)
  refine V_memI (fun I27 e_I27 => ?_)
  replace h := h a26 S25 e_S25 I27 e_I27
  have hM9 := hN
  have hN9 : S25.2.1 = 59 := by rw [e_S25]; show _ + 1 = 59; rw [hN]
  have hc9 : q_cl S25 := by rw [e_S25]; exact q_cl_new hc _ _ _
  have hE9 : Ex S S25 := by rw [e_S25]; exact hE.tr (Ex.new _ (by rw [hN]; decide) _ _ _)
  have hR9 : q_Rk 51 S S25 := by rw [e_S25]; exact hR.new hE.1 _ _ _
  have hK519 : S25.2.2.1 51 = 8 := by rw [e_S25]; exact (if_neg (by rw [hN]; decide)).trans hK51
  clear hc hE hR hK51  
  have hN := hN9
  have hc := hc9
  have hE := hE9
  have hR := hR9
  have hK51 := hK519
  clear hM9
  refine V_putF dX8_init_55 fl_RX8_28 rfl rfl rfl (by rw [hN]; decide) hK51 rfl (fun _ => rfl) (fun _ => rfl) ?_
  refine V_memS (fun S28 e_S28 => ?_)
  replace h := h S28 e_S28
  have hN9 : S28.2.1 = 59 := by rw [e_S28]; exact hN
  have hc9 : q_cl S28 := by rw [e_S28]; exact q_cl_put hc (by rw [hN]; decide)
  have hE9 : Ex S S28 := by rw [e_S28]; exact hE.tr (Ex.put _ _)
  have hR9 : q_Rk 51 S S28 := by rw [e_S28]; exact hR.put (Or.inl rfl)
  have hK519 : S28.2.2.1 51 = 8 := by rw [e_S28]; exact hK51
  clear hc hE hR hK51  
  have hN := hN9
  have hc := hc9
  have hE := hE9
  have hR := hR9
  have hK51 := hK519
  refine V_aload_n dX8_init_58 rfl rfl ?_
  refine V_bipush (v := 24) dX8_init_59 (by decide) ?_
  refine V_newI (z := 24) dX8_init_61 ac_int (by decide) (by decide) (by decide) (by rw [hN]; decide) hc (q_vbn hN rfl) (q_vbn hN rfl) (by decide) (by decide) (fun a30 => ?_)
  rw [hN]
  refine V_memS (fun S29 e_S29 => ?_)
  refine V_memI (fun I31 e_I31 => ?_)
  replace h := h a30 S29 e_S29 I31 e_I31
  have hM9 := hN
  have hN9 : S29.2.1 = 60 := by rw [e_S29]; show _ + 1 = 60; rw [hN]
  have hc9 : q_cl S29 := by rw [e_S29]; exact q_cl_new hc _ _ _
  have hE9 : Ex S S29 := by rw [e_S29]; exact hE.tr (Ex.new _ (by rw [hN]; decide) _ _ _)
  have hR9 : q_Rk 51 S S29 := by rw [e_S29]; exact hR.new hE.1 _ _ _
  have hK519 : S29.2.2.1 51 = 8 := by rw [e_S29]; exact (if_neg (by rw [hN]; decide)).trans hK51
  clear hc hE hR hK51  
  have hN := hN9
  have hc := hc9
  have hE := hE9
  have hR := hR9
  have hK51 := hK519
  clear hM9
  refine V_putF dX8_init_63 fl_RX8_31 rfl rfl rfl (by rw [hN]; decide) hK51 rfl (fun _ => rfl) (fun _ => rfl) ?_
  refine V_memS (fun S32 e_S32 => ?_)
  replace h := h S32 e_S32
  have hN9 : S32.2.1 = 60 := by rw [e_S32]; exact hN
  have hc9 : q_cl S32 := by rw [e_S32]; exact q_cl_put hc (by rw [hN]; decide)
  have hE9 : Ex S S32 := by rw [e_S32]; exact hE.tr (Ex.put _ _)
  have hR9 : q_Rk 51 S S32 := by rw [e_S32]; exact hR.put (Or.inl rfl)
  have hK519 : S32.2.2.1 51 = 8 := by rw [e_S32]; exact hK51
  clear hc hE hR hK51  
  have hN := hN9
  have hc := hc9
  have hE := hE9
  have hR := hR9
  have hK51 := hK519
  refine V_aload_n dX8_init_66 rfl rfl ?_
  refine V_bipush (v := 24) dX8_init_67 (by decide) ?_
  refine V_newI (z := 24) dX8_init_69 ac_int (by decide) (by decide) (by decide) (by rw [hN]; decide) hc (q_vbn hN rfl) (q_vbn hN rfl) (by decide) (by decide) (fun a34 => ?_)
  rw [hN]
  refine V_memS (fun S33 e_S33 => ?_)
  refine V_memI (fun I35 e_I35 => ?_)
  replace h := h a34 S33 e_S33 I35 e_I35
  have hM9 := hN
  have hN9 : S33.2.1 = 61 := by rw [e_S33]; show _ + 1 = 61; rw [hN]
  have hc9 : q_cl S33 := by rw [e_S33]; exact q_cl_new hc _ _ _
  have hE9 : Ex S S33 := by rw [e_S33]; exact hE.tr (Ex.new _ (by rw [hN]; decide) _ _ _)
  have hR9 : q_Rk 51 S S33 := by rw [e_S33]; exact hR.new hE.1 _ _ _
  have hK519 : S33.2.2.1 51 = 8 := by rw [e_S33]; exact (if_neg (by rw [hN]; decide)).trans hK51
  clear hc hE hR hK51  
  have hN := hN9
  have hc := hc9
  have hE := hE9
  have hR := hR9
  have hK51 := hK519
  clear hM9
  refine V_putF dX8_init_71 fl_RX8_34 rfl rfl rfl (by rw [hN]; decide) hK51 rfl (fun _ => rfl) (fun _ => rfl) ?_
  refine V_memS (fun S36 e_S36 => ?_)
  replace h := h S36 e_S36
  have hN9 : S36.2.1 = 61 := by rw [e_S36]; exact hN
  have hc9 : q_cl S36 := by rw [e_S36]; exact q_cl_put hc (by rw [hN]; decide)
  have hE9 : Ex S S36 := by rw [e_S36]; exact hE.tr (Ex.put _ _)
  have hR9 : q_Rk 51 S S36 := by rw [e_S36]; exact hR.put (Or.inl rfl)
  have hK519 : S36.2.2.1 51 = 8 := by rw [e_S36]; exact hK51
  clear hc hE hR hK51  
  have hN := hN9
  have hc := hc9
  have hE := hE9
  have hR := hR9
  have hK51 := hK519
  refine V_aload_n dX8_init_74 rfl rfl ?_
  refine V_bipush (v := 24) dX8_init_75 (by decide) ?_
  refine V_newI (z := 24) dX8_init_77 ac_int (by decide) (by decide) (by decide) (by rw [hN]; decide) hc (q_vbn hN rfl) (q_vbn hN rfl) (by decide) (by decide) (fun a38 => ?_)
  rw [hN]
  refine V_memS (fun S37 e_S37 => ?_)
  refine V_memI (fun I39 e_I39 => ?_)
  replace h := h a38 S37 e_S37 I39 e_I39
  have hM9 := hN
  have hN9 : S37.2.1 = 62 := by rw [e_S37]; show _ + 1 = 62; rw [hN]
  have hc9 : q_cl S37 := by rw [e_S37]; exact q_cl_new hc _ _ _
  have hE9 : Ex S S37 := by rw [e_S37]; exact hE.tr (Ex.new _ (by rw [hN]; decide) _ _ _)
  have hR9 : q_Rk 51 S S37 := by rw [e_S37]; exact hR.new hE.1 _ _ _
  have hK519 : S37.2.2.1 51 = 8 := by rw [e_S37]; exact (if_neg (by rw [hN]; decide)).trans hK51
  clear hc hE hR hK51  
  have hN := hN9
  have hc := hc9
  have hE := hE9
  have hR := hR9
  have hK51 := hK519
  clear hM9
  refine V_putF dX8_init_79 fl_RX8_37 rfl rfl rfl (by rw [hN]; decide) hK51 rfl (fun _ => rfl) (fun _ => rfl) ?_
  refine V_memS (fun S40 e_S40 => ?_)
  replace h := h S40 e_S40
  have hN9 : S40.2.1 = 62 := by rw [e_S40]; exact hN
  have hc9 : q_cl S40 := by rw [e_S40]; exact q_cl_put hc (by rw [hN]; decide)
  have hE9 : Ex S S40 := by rw [e_S40]; exact hE.tr (Ex.put _ _)
  have hR9 : q_Rk 51 S S40 := by rw [e_S40]; exact hR.put (Or.inl rfl)
  have hK519 : S40.2.2.1 51 = 8 := by rw [e_S40]; exact hK51
  clear hc hE hR hK51  
  have hN := hN9
  have hc := hc9
  have hE := hE9
  have hR := hR9
  have hK51 := hK519
  refine V_aload_n dX8_init_82 rfl rfl ?_
  refine V_ldc dX8_init_83 co_RX8_40 ?_
  refine V_puti dX8_init_85 fl_RX8_41 rfl (by rw [hN]; decide) hK51 rfl rfl rfl ?_
  refine V_memI (fun I41 e_I41 => ?_)
  replace h := h I41 e_I41
  refine V_aload_n dX8_init_88 rfl rfl ?_
  refine V_bipush (v := 24) dX8_init_89 (by decide) ?_
  refine V_newI (z := 24) dX8_init_91 ac_int (by decide) (by decide) (by decide) (by rw [hN]; decide) hc (q_vbn hN rfl) (q_vbn hN rfl) (by decide) (by decide) (fun a43 => ?_)
  rw [hN]
  refine V_memS (fun S42 e_S42 => ?_)
  refine V_memI (fun I44 e_I44 => ?_)
  replace h := h a43 S42 e_S42 I44 e_I44
  have hM9 := hN
  have hN9 : S42.2.1 = 63 := by rw [e_S42]; show _ + 1 = 63; rw [hN]
  have hc9 : q_cl S42 := by rw [e_S42]; exact q_cl_new hc _ _ _
  have hE9 : Ex S S42 := by rw [e_S42]; exact hE.tr (Ex.new _ (by rw [hN]; decide) _ _ _)
  have hR9 : q_Rk 51 S S42 := by rw [e_S42]; exact hR.new hE.1 _ _ _
  have hK519 : S42.2.2.1 51 = 8 := by rw [e_S42]; exact (if_neg (by rw [hN]; decide)).trans hK51
  clear hc hE hR hK51  
  have hN := hN9
  have hc := hc9
  have hE := hE9
  have hR := hR9
  have hK51 := hK519
  clear hM9
  refine V_putF dX8_init_93 fl_RX8_45 rfl rfl rfl (by rw [hN]; decide) hK51 rfl (fun _ => rfl) (fun _ => rfl) ?_
  refine V_memS (fun S45 e_S45 => ?_)
  replace h := h S45 e_S45
  have hN9 : S45.2.1 = 63 := by rw [e_S45]; exact hN
  have hc9 : q_cl S45 := by rw [e_S45]; exact q_cl_put hc (by rw [hN]; decide)
  have hE9 : Ex S S45 := by rw [e_S45]; exact hE.tr (Ex.put _ _)
  have hR9 : q_Rk 51 S S45 := by rw [e_S45]; exact hR.put (Or.inl rfl)
  have hK519 : S45.2.2.1 51 = 8 := by rw [e_S45]; exact hK51
  clear hc hE hR hK51  
  have hN := hN9
  have hc := hc9
  have hE := hE9
  have hR := hR9
  have hK51 := hK519
  refine V_aload_n dX8_init_96 rfl rfl ?_
  refine V_bipush (v := 16) dX8_init_97 (by decide) ?_
  refine V_newI (z := 16) dX8_init_99 ac_int (by decide) (by decide) (by decide) (by rw [hN]; decide) hc (q_vbn hN rfl) (q_vbn hN rfl) (by decide) (by decide) (fun a47 => ?_)
  rw [hN]
  refine V_memS (fun S46 e_S46 => ?_)
  refine V_memI (fun I48 e_I48 => ?_)
  replace h := h a47 S46 e_S46 I48 e_I48
  have hM9 := hN
  have hN9 : S46.2.1 = 64 := by rw [e_S46]; show _ + 1 = 64; rw [hN]
  have hc9 : q_cl S46 := by rw [e_S46]; exact q_cl_new hc _ _ _
  have hE9 : Ex S S46 := by rw [e_S46]; exact hE.tr (Ex.new _ (by rw [hN]; decide) _ _ _)
  have hR9 : q_Rk 51 S S46 := by rw [e_S46]; exact hR.new hE.1 _ _ _
  have hK519 : S46.2.2.1 51 = 8 := by rw [e_S46]; exact (if_neg (by rw [hN]; decide)).trans hK51
  clear hc hE hR hK51  
  have hN := hN9
  have hc := hc9
  have hE := hE9
  have hR := hR9
  have hK51 := hK519
  clear hM9
  refine V_putF dX8_init_101 fl_RX8_48 rfl rfl rfl (by rw [hN]; decide) hK51 rfl (fun _ => rfl) (fun _ => rfl) ?_
  refine V_memS (fun S49 e_S49 => ?_)
  replace h := h S49 e_S49
  have hN9 : S49.2.1 = 64 := by rw [e_S49]; exact hN
  have hc9 : q_cl S49 := by rw [e_S49]; exact q_cl_put hc (by rw [hN]; decide)
  have hE9 : Ex S S49 := by rw [e_S49]; exact hE.tr (Ex.put _ _)
  have hR9 : q_Rk 51 S S49 := by rw [e_S49]; exact hR.put (Or.inl rfl)
  have hK519 : S49.2.2.1 51 = 8 := by rw [e_S49]; exact hK51
  clear hc hE hR hK51  
  have hN := hN9
  have hc := hc9
  have hE := hE9
  have hR := hR9
  have hK51 := hK519
  refine V_aload_n dX8_init_104 rfl rfl ?_
  refine V_bipush (v := 24) dX8_init_105 (by decide) ?_
  refine V_newI (z := 24) dX8_init_107 ac_int (by decide) (by decide) (by decide) (by rw [hN]; decide) hc (q_vbn hN rfl) (q_vbn hN rfl) (by decide) (by decide) (fun a51 => ?_)
  rw [hN]
  refine V_memS (fun S50 e_S50 => ?_)
  refine V_memI (fun I52 e_I52 => ?_)
  replace h := h a51 S50 e_S50 I52 e_I52
  have hM9 := hN
  have hN9 : S50.2.1 = 65 := by rw [e_S50]; show _ + 1 = 65; rw [hN]
  have hc9 : q_cl S50 := by rw [e_S50]; exact q_cl_new hc _ _ _
  have hE9 : Ex S S50 := by rw [e_S50]; exact hE.tr (Ex.new _ (by rw [hN]; decide) _ _ _)
  have hR9 : q_Rk 51 S S50 := by rw [e_S50]; exact hR.new hE.1 _ _ _
  have hK519 : S50.2.2.1 51 = 8 := by rw [e_S50]; exact (if_neg (by rw [hN]; decide)).trans hK51
  clear hc hE hR hK51  
  have hN := hN9
  have hc := hc9
  have hE := hE9
  have hR := hR9
  have hK51 := hK519
  clear hM9
  refine V_putF dX8_init_109 fl_RX8_51 rfl rfl rfl (by rw [hN]; decide) hK51 rfl (fun _ => rfl) (fun _ => rfl) ?_
  refine V_memS (fun S53 e_S53 => ?_)
  replace h := h S53 e_S53
  have hN9 : S53.2.1 = 65 := by rw [e_S53]; exact hN
  have hc9 : q_cl S53 := by rw [e_S53]; exact q_cl_put hc (by rw [hN]; decide)
  have hE9 : Ex S S53 := by rw [e_S53]; exact hE.tr (Ex.put _ _)
  have hR9 : q_Rk 51 S S53 := by rw [e_S53]; exact hR.put (Or.inl rfl)
  have hK519 : S53.2.2.1 51 = 8 := by rw [e_S53]; exact hK51
  clear hc hE hR hK51  
  have hN := hN9
  have hc := hc9
  have hE := hE9
  have hR := hR9
  have hK51 := hK519
  refine V_aload_n dX8_init_112 rfl rfl ?_
  refine V_bipush (v := 24) dX8_init_113 (by decide) ?_
  refine V_newJ (z := 24) dX8_init_115 ac_long (by decide) (by decide) (by decide) (by rw [hN]; decide) hc (q_vbn hN rfl) (q_vbn hN rfl) (by decide) (by decide) (fun a55 => ?_)
  rw [hN]
  refine V_memS (fun S54 e_S54 => ?_)
  refine V_memJ (fun J56 e_J56 => ?_)
  replace h := h a55 S54 e_S54 J56 e_J56
  have hM9 := hN
  have hN9 : S54.2.1 = 66 := by rw [e_S54]; show _ + 1 = 66; rw [hN]
  have hc9 : q_cl S54 := by rw [e_S54]; exact q_cl_new hc _ _ _
  have hE9 : Ex S S54 := by rw [e_S54]; exact hE.tr (Ex.new _ (by rw [hN]; decide) _ _ _)
  have hR9 : q_Rk 51 S S54 := by rw [e_S54]; exact hR.new hE.1 _ _ _
  have hK519 : S54.2.2.1 51 = 8 := by rw [e_S54]; exact (if_neg (by rw [hN]; decide)).trans hK51
  clear hc hE hR hK51  
  have hN := hN9
  have hc := hc9
  have hE := hE9
  have hR := hR9
  have hK51 := hK519
  clear hM9
  refine V_putF dX8_init_117 fl_RX8_54 rfl rfl rfl (by rw [hN]; decide) hK51 rfl (fun _ => rfl) (fun _ => rfl) ?_
  refine V_memS (fun S57 e_S57 => ?_)
  replace h := h S57 e_S57
  have hN9 : S57.2.1 = 66 := by rw [e_S57]; exact hN
  have hc9 : q_cl S57 := by rw [e_S57]; exact q_cl_put hc (by rw [hN]; decide)
  have hE9 : Ex S S57 := by rw [e_S57]; exact hE.tr (Ex.put _ _)
  have hR9 : q_Rk 51 S S57 := by rw [e_S57]; exact hR.put (Or.inl rfl)
  have hK519 : S57.2.2.1 51 = 8 := by rw [e_S57]; exact hK51
  clear hc hE hR hK51  
  have hN := hN9
  have hc := hc9
  have hE := hE9
  have hR := hR9
  have hK51 := hK519
  refine V_aload_n dX8_init_120 rfl rfl ?_
  refine V_sipush (v := 28800) dX8_init_121 (by decide) ?_
  refine V_newI (z := 28800) dX8_init_124 ac_int (by decide) (by decide) (by decide) (by rw [hN]; decide) hc (q_vbn hN rfl) (q_vbn hN rfl) (by decide) (by decide) (fun a59 => ?_)
  rw [hN]
  refine V_memS (fun S58 e_S58 => ?_)
  refine V_memI (fun I60 e_I60 => ?_)
  replace h := h a59 S58 e_S58 I60 e_I60
  have hM9 := hN
  have hN9 : S58.2.1 = 67 := by rw [e_S58]; show _ + 1 = 67; rw [hN]
  have hc9 : q_cl S58 := by rw [e_S58]; exact q_cl_new hc _ _ _
  have hE9 : Ex S S58 := by rw [e_S58]; exact hE.tr (Ex.new _ (by rw [hN]; decide) _ _ _)
  have hR9 : q_Rk 51 S S58 := by rw [e_S58]; exact hR.new hE.1 _ _ _
  have hK519 : S58.2.2.1 51 = 8 := by rw [e_S58]; exact (if_neg (by rw [hN]; decide)).trans hK51
  clear hc hE hR hK51  
  have hN := hN9
  have hc := hc9
  have hE := hE9
  have hR := hR9
  have hK51 := hK519
  clear hM9
  refine V_putF dX8_init_126 fl_RX8_58 rfl rfl rfl (by rw [hN]; decide) hK51 rfl (fun _ => rfl) (fun _ => rfl) ?_
  refine V_memS (fun S61 e_S61 => ?_)
  replace h := h S61 e_S61
  have hN9 : S61.2.1 = 67 := by rw [e_S61]; exact hN
  have hc9 : q_cl S61 := by rw [e_S61]; exact q_cl_put hc (by rw [hN]; decide)
  have hE9 : Ex S S61 := by rw [e_S61]; exact hE.tr (Ex.put _ _)
  have hR9 : q_Rk 51 S S61 := by rw [e_S61]; exact hR.put (Or.inl rfl)
  have hK519 : S61.2.2.1 51 = 8 := by rw [e_S61]; exact hK51
  clear hc hE hR hK51  
  have hN := hN9
  have hc := hc9
  have hE := hE9
  have hR := hR9
  have hK51 := hK519
  refine V_aload_n dX8_init_129 rfl rfl ?_
  refine V_bipush (v := 24) dX8_init_130 (by decide) ?_
  refine V_newZ (z := 24) dX8_init_132 ac_boolean (by decide) (by decide) (by decide) (by rw [hN]; decide) hc (q_vbn hN rfl) (q_vbn hN rfl) (by decide) (by decide) (fun a63 => ?_)
  rw [hN]
  refine V_memS (fun S62 e_S62 => ?_)
  refine V_memI (fun I64 e_I64 => ?_)
  replace h := h a63 S62 e_S62 I64 e_I64
  have hM9 := hN
  have hN9 : S62.2.1 = 68 := by rw [e_S62]; show _ + 1 = 68; rw [hN]
  have hc9 : q_cl S62 := by rw [e_S62]; exact q_cl_new hc _ _ _
  have hE9 : Ex S S62 := by rw [e_S62]; exact hE.tr (Ex.new _ (by rw [hN]; decide) _ _ _)
  have hR9 : q_Rk 51 S S62 := by rw [e_S62]; exact hR.new hE.1 _ _ _
  have hK519 : S62.2.2.1 51 = 8 := by rw [e_S62]; exact (if_neg (by rw [hN]; decide)).trans hK51
  clear hc hE hR hK51  
  have hN := hN9
  have hc := hc9
  have hE := hE9
  have hR := hR9
  have hK51 := hK519
  clear hM9
  refine V_putF dX8_init_134 fl_RX8_61 rfl rfl rfl (by rw [hN]; decide) hK51 rfl (fun _ => rfl) (fun _ => rfl) ?_
  refine V_memS (fun S65 e_S65 => ?_)
  replace h := h S65 e_S65
  have hN9 : S65.2.1 = 68 := by rw [e_S65]; exact hN
  have hc9 : q_cl S65 := by rw [e_S65]; exact q_cl_put hc (by rw [hN]; decide)
  have hE9 : Ex S S65 := by rw [e_S65]; exact hE.tr (Ex.put _ _)
  have hR9 : q_Rk 51 S S65 := by rw [e_S65]; exact hR.put (Or.inl rfl)
  have hK519 : S65.2.2.1 51 = 8 := by rw [e_S65]; exact hK51
  clear hc hE hR hK51  
  have hN := hN9
  have hc := hc9
  have hE := hE9
  have hR := hR9
  have hK51 := hK519
  refine V_aload_n dX8_init_137 rfl rfl ?_
  refine V_sipush (v := 400) dX8_init_138 (by decide) ?_
  refine V_newZ (z := 400) dX8_init_141 ac_boolean (by decide) (by decide) (by decide) (by rw [hN]; decide) hc (q_vbn hN rfl) (q_vbn hN rfl) (by decide) (by decide) (fun a67 => ?_)
  rw [hN]
  refine V_memS (fun S66 e_S66 => ?_)
  refine V_memI (fun I68 e_I68 => ?_)
  replace h := h a67 S66 e_S66 I68 e_I68
  have hM9 := hN
  have hN9 : S66.2.1 = 69 := by rw [e_S66]; show _ + 1 = 69; rw [hN]
  have hc9 : q_cl S66 := by rw [e_S66]; exact q_cl_new hc _ _ _
  have hE9 : Ex S S66 := by rw [e_S66]; exact hE.tr (Ex.new _ (by rw [hN]; decide) _ _ _)
  have hR9 : q_Rk 51 S S66 := by rw [e_S66]; exact hR.new hE.1 _ _ _
  have hK519 : S66.2.2.1 51 = 8 := by rw [e_S66]; exact (if_neg (by rw [hN]; decide)).trans hK51
  clear hc hE hR hK51  
  have hN := hN9
  have hc := hc9
  have hE := hE9
  have hR := hR9
  have hK51 := hK519
  clear hM9
  refine V_putF dX8_init_143 fl_RX8_65 rfl rfl rfl (by rw [hN]; decide) hK51 rfl (fun _ => rfl) (fun _ => rfl) ?_
  refine V_memS (fun S69 e_S69 => ?_)
  replace h := h S69 e_S69
  have hN9 : S69.2.1 = 69 := by rw [e_S69]; exact hN
  have hc9 : q_cl S69 := by rw [e_S69]; exact q_cl_put hc (by rw [hN]; decide)
  have hE9 : Ex S S69 := by rw [e_S69]; exact hE.tr (Ex.put _ _)
  have hR9 : q_Rk 51 S S69 := by rw [e_S69]; exact hR.put (Or.inl rfl)
  have hK519 : S69.2.2.1 51 = 8 := by rw [e_S69]; exact hK51
  clear hc hE hR hK51  
  have hN := hN9
  have hc := hc9
  have hE := hE9
  have hR := hR9
  have hK51 := hK519
  refine V_aload_n dX8_init_146 rfl rfl ?_
  refine V_sipush (v := 1200) dX8_init_147 (by decide) ?_
  refine V_newI (z := 1200) dX8_init_150 ac_int (by decide) (by decide) (by decide) (by rw [hN]; decide) hc (q_vbn hN rfl) (q_vbn hN rfl) (by decide) (by decide) (fun a71 => ?_)
  rw [hN]
  refine V_memS (fun S70 e_S70 => ?_)
  refine V_memI (fun I72 e_I72 => ?_)
  replace h := h a71 S70 e_S70 I72 e_I72
  have hM9 := hN
  have hN9 : S70.2.1 = 70 := by rw [e_S70]; show _ + 1 = 70; rw [hN]
  have hc9 : q_cl S70 := by rw [e_S70]; exact q_cl_new hc _ _ _
  have hE9 : Ex S S70 := by rw [e_S70]; exact hE.tr (Ex.new _ (by rw [hN]; decide) _ _ _)
  have hR9 : q_Rk 51 S S70 := by rw [e_S70]; exact hR.new hE.1 _ _ _
  have hK519 : S70.2.2.1 51 = 8 := by rw [e_S70]; exact (if_neg (by rw [hN]; decide)).trans hK51
  clear hc hE hR hK51  
  have hN := hN9
  have hc := hc9
  have hE := hE9
  have hR := hR9
  have hK51 := hK519
  clear hM9
  refine V_putF dX8_init_152 fl_RX8_68 rfl rfl rfl (by rw [hN]; decide) hK51 rfl (fun _ => rfl) (fun _ => rfl) ?_
  refine V_memS (fun S73 e_S73 => ?_)
  replace h := h S73 e_S73
  have hN9 : S73.2.1 = 70 := by rw [e_S73]; exact hN
  have hc9 : q_cl S73 := by rw [e_S73]; exact q_cl_put hc (by rw [hN]; decide)
  have hE9 : Ex S S73 := by rw [e_S73]; exact hE.tr (Ex.put _ _)
  have hR9 : q_Rk 51 S S73 := by rw [e_S73]; exact hR.put (Or.inl rfl)
  have hK519 : S73.2.2.1 51 = 8 := by rw [e_S73]; exact hK51
  clear hc hE hR hK51  
  have hN := hN9
  have hc := hc9
  have hE := hE9
  have hR := hR9
  have hK51 := hK519
  refine V_aload_n dX8_init_155 rfl rfl ?_
  refine V_bipush (v := 64) dX8_init_156 (by decide) ?_
  refine V_newI (z := 64) dX8_init_158 ac_int (by decide) (by decide) (by decide) (by rw [hN]; decide) hc (q_vbn hN rfl) (q_vbn hN rfl) (by decide) (by decide) (fun a75 => ?_)
  rw [hN]
  refine V_memS (fun S74 e_S74 => ?_)
  refine V_memI (fun I76 e_I76 => ?_)
  replace h := h a75 S74 e_S74 I76 e_I76
  have hM9 := hN
  have hN9 : S74.2.1 = 71 := by rw [e_S74]; show _ + 1 = 71; rw [hN]
  have hc9 : q_cl S74 := by rw [e_S74]; exact q_cl_new hc _ _ _
  have hE9 : Ex S S74 := by rw [e_S74]; exact hE.tr (Ex.new _ (by rw [hN]; decide) _ _ _)
  have hR9 : q_Rk 51 S S74 := by rw [e_S74]; exact hR.new hE.1 _ _ _
  have hK519 : S74.2.2.1 51 = 8 := by rw [e_S74]; exact (if_neg (by rw [hN]; decide)).trans hK51
  clear hc hE hR hK51  
  have hN := hN9
  have hc := hc9
  have hE := hE9
  have hR := hR9
  have hK51 := hK519
  clear hM9
  refine V_putr dX8_init_160 fl_RX8_71 rfl (by rw [hN]; decide) hK51 rfl (fun _ => rfl) (fun _ => rfl) ?_
  refine V_memS (fun S77 e_S77 => ?_)
  replace h := h S77 e_S77
  have hN9 : S77.2.1 = 71 := by rw [e_S77]; exact hN
  have hc9 : q_cl S77 := by rw [e_S77]; exact q_cl_put hc (by rw [hN]; decide)
  have hE9 : Ex S S77 := by rw [e_S77]; exact hE.tr (Ex.put _ _)
  have hR9 : q_Rk 51 S S77 := by rw [e_S77]; exact hR.put (Or.inl rfl)
  have hK519 : S77.2.2.1 51 = 8 := by rw [e_S77]; exact hK51
  clear hc hE hR hK51  
  have hN := hN9
  have hc := hc9
  have hE := hE9
  have hR := hR9
  have hK51 := hK519
  refine V_aload_n dX8_init_163 rfl rfl ?_
  refine V_bipush (v := 64) dX8_init_164 (by decide) ?_
  refine V_newI (z := 64) dX8_init_166 ac_int (by decide) (by decide) (by decide) (by rw [hN]; decide) hc (q_vbn hN rfl) (q_vbn hN rfl) (by decide) (by decide) (fun a79 => ?_)
  rw [hN]
  refine V_memS (fun S78 e_S78 => ?_)
  refine V_memI (fun I80 e_I80 => ?_)
  replace h := h a79 S78 e_S78 I80 e_I80
  have hM9 := hN
  have hN9 : S78.2.1 = 72 := by rw [e_S78]; show _ + 1 = 72; rw [hN]
  have hc9 : q_cl S78 := by rw [e_S78]; exact q_cl_new hc _ _ _
  have hE9 : Ex S S78 := by rw [e_S78]; exact hE.tr (Ex.new _ (by rw [hN]; decide) _ _ _)
  have hR9 : q_Rk 51 S S78 := by rw [e_S78]; exact hR.new hE.1 _ _ _
  have hK519 : S78.2.2.1 51 = 8 := by rw [e_S78]; exact (if_neg (by rw [hN]; decide)).trans hK51
  clear hc hE hR hK51  
  have hN := hN9
  have hc := hc9
  have hE := hE9
  have hR := hR9
  have hK51 := hK519
  clear hM9
  refine V_putr dX8_init_168 fl_RX8_74 rfl (by rw [hN]; decide) hK51 rfl (fun _ => rfl) (fun _ => rfl) ?_
  refine V_memS (fun S81 e_S81 => ?_)
  replace h := h S81 e_S81
  have hN9 : S81.2.1 = 72 := by rw [e_S81]; exact hN
  have hc9 : q_cl S81 := by rw [e_S81]; exact q_cl_put hc (by rw [hN]; decide)
  have hE9 : Ex S S81 := by rw [e_S81]; exact hE.tr (Ex.put _ _)
  have hR9 : q_Rk 51 S S81 := by rw [e_S81]; exact hR.put (Or.inl rfl)
  have hK519 : S81.2.2.1 51 = 8 := by rw [e_S81]; exact hK51
  clear hc hE hR hK51  
  have hN := hN9
  have hc := hc9
  have hE := hE9
  have hR := hR9
  have hK51 := hK519
  refine V_aload_n dX8_init_171 rfl rfl ?_
  refine V_bipush (v := 64) dX8_init_172 (by decide) ?_
  refine V_newI (z := 64) dX8_init_174 ac_int (by decide) (by decide) (by decide) (by rw [hN]; decide) hc (q_vbn hN rfl) (q_vbn hN rfl) (by decide) (by decide) (fun a83 => ?_)
  rw [hN]
  refine V_memS (fun S82 e_S82 => ?_)
  refine V_memI (fun I84 e_I84 => ?_)
  replace h := h a83 S82 e_S82 I84 e_I84
  have hM9 := hN
  have hN9 : S82.2.1 = 73 := by rw [e_S82]; show _ + 1 = 73; rw [hN]
  have hc9 : q_cl S82 := by rw [e_S82]; exact q_cl_new hc _ _ _
  have hE9 : Ex S S82 := by rw [e_S82]; exact hE.tr (Ex.new _ (by rw [hN]; decide) _ _ _)
  have hR9 : q_Rk 51 S S82 := by rw [e_S82]; exact hR.new hE.1 _ _ _
  have hK519 : S82.2.2.1 51 = 8 := by rw [e_S82]; exact (if_neg (by rw [hN]; decide)).trans hK51
  clear hc hE hR hK51  
  have hN := hN9
  have hc := hc9
  have hE := hE9
  have hR := hR9
  have hK51 := hK519
  clear hM9
  refine V_putr dX8_init_176 fl_RX8_77 rfl (by rw [hN]; decide) hK51 rfl (fun _ => rfl) (fun _ => rfl) ?_
  refine V_memS (fun S85 e_S85 => ?_)
  replace h := h S85 e_S85
  have hN9 : S85.2.1 = 73 := by rw [e_S85]; exact hN
  have hc9 : q_cl S85 := by rw [e_S85]; exact q_cl_put hc (by rw [hN]; decide)
  have hE9 : Ex S S85 := by rw [e_S85]; exact hE.tr (Ex.put _ _)
  have hR9 : q_Rk 51 S S85 := by rw [e_S85]; exact hR.put (Or.inl rfl)
  have hK519 : S85.2.2.1 51 = 8 := by rw [e_S85]; exact hK51
  clear hc hE hR hK51  
  have hN := hN9
  have hc := hc9
  have hE := hE9
  have hR := hR9
  have hK51 := hK519
  refine V_aload_n dX8_init_179 rfl rfl ?_
  refine V_bipush (v := 64) dX8_init_180 (by decide) ?_
  refine V_newI (z := 64) dX8_init_182 ac_int (by decide) (by decide) (by decide) (by rw [hN]; decide) hc (q_vbn hN rfl) (q_vbn hN rfl) (by decide) (by decide) (fun a87 => ?_)
  rw [hN]
  refine V_memS (fun S86 e_S86 => ?_)
  refine V_memI (fun I88 e_I88 => ?_)
  replace h := h a87 S86 e_S86 I88 e_I88
  have hM9 := hN
  have hN9 : S86.2.1 = 74 := by rw [e_S86]; show _ + 1 = 74; rw [hN]
  have hc9 : q_cl S86 := by rw [e_S86]; exact q_cl_new hc _ _ _
  have hE9 : Ex S S86 := by rw [e_S86]; exact hE.tr (Ex.new _ (by rw [hN]; decide) _ _ _)
  have hR9 : q_Rk 51 S S86 := by rw [e_S86]; exact hR.new hE.1 _ _ _
  have hK519 : S86.2.2.1 51 = 8 := by rw [e_S86]; exact (if_neg (by rw [hN]; decide)).trans hK51
  clear hc hE hR hK51  
  have hN := hN9
  have hc := hc9
  have hE := hE9
  have hR := hR9
  have hK51 := hK519
  clear hM9
  refine V_putr dX8_init_184 fl_RX8_80 rfl (by rw [hN]; decide) hK51 rfl (fun _ => rfl) (fun _ => rfl) ?_
  refine V_memS (fun S89 e_S89 => ?_)
  replace h := h S89 e_S89
  have hN9 : S89.2.1 = 74 := by rw [e_S89]; exact hN
  have hc9 : q_cl S89 := by rw [e_S89]; exact q_cl_put hc (by rw [hN]; decide)
  have hE9 : Ex S S89 := by rw [e_S89]; exact hE.tr (Ex.put _ _)
  have hR9 : q_Rk 51 S S89 := by rw [e_S89]; exact hR.put (Or.inl rfl)
  have hK519 : S89.2.2.1 51 = 8 := by rw [e_S89]; exact hK51
  clear hc hE hR hK51  
  have hN := hN9
  have hc := hc9
  have hE := hE9
  have hR := hR9
  have hK51 := hK519
  refine V_aload_n dX8_init_187 rfl rfl ?_
  refine V_bipush (v := 64) dX8_init_188 (by decide) ?_
  refine V_newI (z := 64) dX8_init_190 ac_int (by decide) (by decide) (by decide) (by rw [hN]; decide) hc (q_vbn hN rfl) (q_vbn hN rfl) (by decide) (by decide) (fun a91 => ?_)
  rw [hN]
  refine V_memS (fun S90 e_S90 => ?_)
  refine V_memI (fun I92 e_I92 => ?_)
  replace h := h a91 S90 e_S90 I92 e_I92
  have hM9 := hN
  have hN9 : S90.2.1 = 75 := by rw [e_S90]; show _ + 1 = 75; rw [hN]
  have hc9 : q_cl S90 := by rw [e_S90]; exact q_cl_new hc _ _ _
  have hE9 : Ex S S90 := by rw [e_S90]; exact hE.tr (Ex.new _ (by rw [hN]; decide) _ _ _)
  have hR9 : q_Rk 51 S S90 := by rw [e_S90]; exact hR.new hE.1 _ _ _
  have hK519 : S90.2.2.1 51 = 8 := by rw [e_S90]; exact (if_neg (by rw [hN]; decide)).trans hK51
  clear hc hE hR hK51  
  have hN := hN9
  have hc := hc9
  have hE := hE9
  have hR := hR9
  have hK51 := hK519
  clear hM9
  refine V_putr dX8_init_192 fl_RX8_83 rfl (by rw [hN]; decide) hK51 rfl (fun _ => rfl) (fun _ => rfl) ?_
  refine V_memS (fun S93 e_S93 => ?_)
  replace h := h S93 e_S93
  have hN9 : S93.2.1 = 75 := by rw [e_S93]; exact hN
  have hc9 : q_cl S93 := by rw [e_S93]; exact q_cl_put hc (by rw [hN]; decide)
  have hE9 : Ex S S93 := by rw [e_S93]; exact hE.tr (Ex.put _ _)
  have hR9 : q_Rk 51 S S93 := by rw [e_S93]; exact hR.put (Or.inl rfl)
  have hK519 : S93.2.2.1 51 = 8 := by rw [e_S93]; exact hK51
  clear hc hE hR hK51  
  have hN := hN9
  have hc := hc9
  have hE := hE9
  have hR := hR9
  have hK51 := hK519
  refine V_aload_n dX8_init_195 rfl rfl ?_
  refine V_bipush (v := 24) dX8_init_196 (by decide) ?_
  refine V_newI (z := 24) dX8_init_198 ac_int (by decide) (by decide) (by decide) (by rw [hN]; decide) hc (q_vbn hN rfl) (q_vbn hN rfl) (by decide) (by decide) (fun a95 => ?_)
  rw [hN]
  refine V_memS (fun S94 e_S94 => ?_)
  refine V_memI (fun I96 e_I96 => ?_)
  replace h := h a95 S94 e_S94 I96 e_I96
  have hM9 := hN
  have hN9 : S94.2.1 = 76 := by rw [e_S94]; show _ + 1 = 76; rw [hN]
  have hc9 : q_cl S94 := by rw [e_S94]; exact q_cl_new hc _ _ _
  have hE9 : Ex S S94 := by rw [e_S94]; exact hE.tr (Ex.new _ (by rw [hN]; decide) _ _ _)
  have hR9 : q_Rk 51 S S94 := by rw [e_S94]; exact hR.new hE.1 _ _ _
  have hK519 : S94.2.2.1 51 = 8 := by rw [e_S94]; exact (if_neg (by rw [hN]; decide)).trans hK51
  clear hc hE hR hK51  
  have hN := hN9
  have hc := hc9
  have hE := hE9
  have hR := hR9
  have hK51 := hK519
  clear hM9
  refine V_putF dX8_init_200 fl_RX8_86 rfl rfl rfl (by rw [hN]; decide) hK51 rfl (fun _ => rfl) (fun _ => rfl) ?_
  refine V_memS (fun S97 e_S97 => ?_)
  replace h := h S97 e_S97
  have hN9 : S97.2.1 = 76 := by rw [e_S97]; exact hN
  have hc9 : q_cl S97 := by rw [e_S97]; exact q_cl_put hc (by rw [hN]; decide)
  have hE9 : Ex S S97 := by rw [e_S97]; exact hE.tr (Ex.put _ _)
  have hR9 : q_Rk 51 S S97 := by rw [e_S97]; exact hR.put (Or.inl rfl)
  have hK519 : S97.2.2.1 51 = 8 := by rw [e_S97]; exact hK51
  clear hc hE hR hK51  
  have hN := hN9
  have hc := hc9
  have hE := hE9
  have hR := hR9
  have hK51 := hK519
  refine V_aload_n dX8_init_203 rfl rfl ?_
  refine V_bipush (v := 16) dX8_init_204 (by decide) ?_
  refine V_newI (z := 16) dX8_init_206 ac_int (by decide) (by decide) (by decide) (by rw [hN]; decide) hc (q_vbn hN rfl) (q_vbn hN rfl) (by decide) (by decide) (fun a99 => ?_)
  rw [hN]
  refine V_memS (fun S98 e_S98 => ?_)
  refine V_memI (fun I100 e_I100 => ?_)
  replace h := h a99 S98 e_S98 I100 e_I100
  have hM9 := hN
  have hN9 : S98.2.1 = 77 := by rw [e_S98]; show _ + 1 = 77; rw [hN]
  have hc9 : q_cl S98 := by rw [e_S98]; exact q_cl_new hc _ _ _
  have hE9 : Ex S S98 := by rw [e_S98]; exact hE.tr (Ex.new _ (by rw [hN]; decide) _ _ _)
  have hR9 : q_Rk 51 S S98 := by rw [e_S98]; exact hR.new hE.1 _ _ _
  have hK519 : S98.2.2.1 51 = 8 := by rw [e_S98]; exact (if_neg (by rw [hN]; decide)).trans hK51
  clear hc hE hR hK51  
  have hN := hN9
  have hc := hc9
  have hE := hE9
  have hR := hR9
  have hK51 := hK519
  clear hM9
  refine V_putF dX8_init_208 fl_RX8_89 rfl rfl rfl (by rw [hN]; decide) hK51 rfl (fun _ => rfl) (fun _ => rfl) ?_
  refine V_memS (fun S101 e_S101 => ?_)
  replace h := h S101 e_S101
  have hN9 : S101.2.1 = 77 := by rw [e_S101]; exact hN
  have hc9 : q_cl S101 := by rw [e_S101]; exact q_cl_put hc (by rw [hN]; decide)
  have hE9 : Ex S S101 := by rw [e_S101]; exact hE.tr (Ex.put _ _)
  have hR9 : q_Rk 51 S S101 := by rw [e_S101]; exact hR.put (Or.inl rfl)
  have hK519 : S101.2.2.1 51 = 8 := by rw [e_S101]; exact hK51
  clear hc hE hR hK51  
  have hN := hN9
  have hc := hc9
  have hE := hE9
  have hR := hR9
  have hK51 := hK519
  refine V_aload_n dX8_init_211 rfl rfl ?_
  refine V_bipush (v := 16) dX8_init_212 (by decide) ?_
  refine V_newI (z := 16) dX8_init_214 ac_int (by decide) (by decide) (by decide) (by rw [hN]; decide) hc (q_vbn hN rfl) (q_vbn hN rfl) (by decide) (by decide) (fun a103 => ?_)
  rw [hN]
  refine V_memS (fun S102 e_S102 => ?_)
  refine V_memI (fun I104 e_I104 => ?_)
  replace h := h a103 S102 e_S102 I104 e_I104
  have hM9 := hN
  have hN9 : S102.2.1 = 78 := by rw [e_S102]; show _ + 1 = 78; rw [hN]
  have hc9 : q_cl S102 := by rw [e_S102]; exact q_cl_new hc _ _ _
  have hE9 : Ex S S102 := by rw [e_S102]; exact hE.tr (Ex.new _ (by rw [hN]; decide) _ _ _)
  have hR9 : q_Rk 51 S S102 := by rw [e_S102]; exact hR.new hE.1 _ _ _
  have hK519 : S102.2.2.1 51 = 8 := by rw [e_S102]; exact (if_neg (by rw [hN]; decide)).trans hK51
  clear hc hE hR hK51  
  have hN := hN9
  have hc := hc9
  have hE := hE9
  have hR := hR9
  have hK51 := hK519
  clear hM9
  refine V_putF dX8_init_216 fl_RX8_92 rfl rfl rfl (by rw [hN]; decide) hK51 rfl (fun _ => rfl) (fun _ => rfl) ?_
  refine V_memS (fun S105 e_S105 => ?_)
  replace h := h S105 e_S105
  have hN9 : S105.2.1 = 78 := by rw [e_S105]; exact hN
  have hc9 : q_cl S105 := by rw [e_S105]; exact q_cl_put hc (by rw [hN]; decide)
  have hE9 : Ex S S105 := by rw [e_S105]; exact hE.tr (Ex.put _ _)
  have hR9 : q_Rk 51 S S105 := by rw [e_S105]; exact hR.put (Or.inl rfl)
  have hK519 : S105.2.2.1 51 = 8 := by rw [e_S105]; exact hK51
  clear hc hE hR hK51  
  have hN := hN9
  have hc := hc9
  have hE := hE9
  have hR := hR9
  have hK51 := hK519
  refine V_aload_n dX8_init_219 rfl rfl ?_
  refine V_bipush (v := 10) dX8_init_220 (by decide) ?_
  refine V_newZ (z := 10) dX8_init_222 ac_boolean (by decide) (by decide) (by decide) (by rw [hN]; decide) hc (q_vbn hN rfl) (q_vbn hN rfl) (by decide) (by decide) (fun a107 => ?_)
  rw [hN]
  refine V_memS (fun S106 e_S106 => ?_)
  refine V_memI (fun I108 e_I108 => ?_)
  replace h := h a107 S106 e_S106 I108 e_I108
  have hM9 := hN
  have hN9 : S106.2.1 = 79 := by rw [e_S106]; show _ + 1 = 79; rw [hN]
  have hc9 : q_cl S106 := by rw [e_S106]; exact q_cl_new hc _ _ _
  have hE9 : Ex S S106 := by rw [e_S106]; exact hE.tr (Ex.new _ (by rw [hN]; decide) _ _ _)
  have hR9 : q_Rk 51 S S106 := by rw [e_S106]; exact hR.new hE.1 _ _ _
  have hK519 : S106.2.2.1 51 = 8 := by rw [e_S106]; exact (if_neg (by rw [hN]; decide)).trans hK51
  clear hc hE hR hK51  
  have hN := hN9
  have hc := hc9
  have hE := hE9
  have hR := hR9
  have hK51 := hK519
  clear hM9
  refine V_putF dX8_init_224 fl_RX8_95 rfl rfl rfl (by rw [hN]; decide) hK51 rfl (fun _ => rfl) (fun _ => rfl) ?_
  refine V_memS (fun S109 e_S109 => ?_)
  replace h := h S109 e_S109
  have hN9 : S109.2.1 = 79 := by rw [e_S109]; exact hN
  have hc9 : q_cl S109 := by rw [e_S109]; exact q_cl_put hc (by rw [hN]; decide)
  have hE9 : Ex S S109 := by rw [e_S109]; exact hE.tr (Ex.put _ _)
  have hR9 : q_Rk 51 S S109 := by rw [e_S109]; exact hR.put (Or.inl rfl)
  have hK519 : S109.2.2.1 51 = 8 := by rw [e_S109]; exact hK51
  clear hc hE hR hK51  
  have hN := hN9
  have hc := hc9
  have hE := hE9
  have hR := hR9
  have hK51 := hK519
  exact V_vret dX8_init_227 rfl (by decide) (by decide) ⟨rfl, hE, hc, by rw [hN, hN0], hR, h⟩
