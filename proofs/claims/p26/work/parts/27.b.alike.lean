def wL_areAlike_93 (a2 : Int32) (K97 : Int32 → Int32 → QI → Nat → Nat → Prop) (post : Int32 → QI → Prop) (y0 : Int32) (I : QI) (kc : Nat) (nc : Nat) : Prop := (K97 y0 0 I kc nc)
set_option maxRecDepth 100000 in
set_option maxHeartbeats 4000000 in
theorem swL_areAlike_93 {X : QX} {S : QS} {a2 : Int32} {J : QJ} {K97 : Int32 → Int32 → QI → Nat → Nat → Prop} {post : Int32 → QI → Prop} (hS : Sh S) (hW : Sh (q_sS S)) (hM : 102 ≤ S.2.1) (hK97 : ∀ (z3 : Int32) (z4 : Int32) (I : QI) (kc : Nat) (nc : Nat), kc ≤ 200 → nc ≤ 1200 → K97 z3 z4 I kc nc → V X mL_areAlike 9 200 1200 (q_Pi S (fun r I2 J2 => J = J2 ∧ post r I2)) 97 [(0, .ref 0), (1, .ref 51), (2, .int a2), (3, .int z3), (4, .int z4)] [] S I J kc nc) : ∀ (y0 : Int32) (I : QI) (kc : Nat) (nc : Nat), kc ≤ 200 → nc ≤ 1200 → wL_areAlike_93 a2 K97 post y0 I kc nc → V X mL_areAlike 9 200 1200 (q_Pi S (fun r I2 J2 => J = J2 ∧ post r I2)) 93 [(0, .ref 0), (1, .ref 51), (2, .int a2)] [.int y0] S I J kc nc := by
  intro y0 I kc nc hk hn h
  replace h : (K97 y0 0 I kc nc) := h
  refine V_istore_n (lo2 := [(3, .int y0), (0, .ref 0), (1, .ref 51), (2, .int a2)]) dL_areAlike_93 rfl (by decide) rfl ?_
  refine V_iconst (v := 0) dL_areAlike_94 (by decide) ?_
  refine V_istore (lo2 := [(4, .int 0), (3, .int y0), (0, .ref 0), (1, .ref 51), (2, .int a2)]) dL_areAlike_95 (by decide) rfl ?_
  refine V_sub (lo2 := [(0, .ref 0), (1, .ref 51), (2, .int a2), (3, .int y0), (4, .int 0)]) [2, 3, 4, 1, 0] rfl ?_
  exact hK97 _ _ _ _ _ hk hn h
def wL_areAlike_187 (a2 : Int32) (K97 : Int32 → Int32 → QI → Nat → Nat → Prop) (post : Int32 → QI → Prop) (x4 : Int32) (y0 : Int32) (I : QI) (kc : Nat) (nc : Nat) : Prop := (∀ v16 : Int32, v16 = (x4 + 1) → (K97 y0 v16 I kc nc))
set_option maxRecDepth 100000 in
set_option maxHeartbeats 4000000 in
theorem swL_areAlike_187 {X : QX} {S : QS} {a2 : Int32} {J : QJ} {K97 : Int32 → Int32 → QI → Nat → Nat → Prop} {post : Int32 → QI → Prop} (hS : Sh S) (hW : Sh (q_sS S)) (hM : 102 ≤ S.2.1) (hK97 : ∀ (z3 : Int32) (z4 : Int32) (I : QI) (kc : Nat) (nc : Nat), kc ≤ 200 → nc ≤ 1200 → K97 z3 z4 I kc nc → V X mL_areAlike 9 200 1200 (q_Pi S (fun r I2 J2 => J = J2 ∧ post r I2)) 97 [(0, .ref 0), (1, .ref 51), (2, .int a2), (3, .int z3), (4, .int z4)] [] S I J kc nc) : ∀ (x4 : Int32) (y0 : Int32) (I : QI) (kc : Nat) (nc : Nat), kc ≤ 200 → nc ≤ 1200 → wL_areAlike_187 a2 K97 post x4 y0 I kc nc → V X mL_areAlike 9 200 1200 (q_Pi S (fun r I2 J2 => J = J2 ∧ post r I2)) 187 [(0, .ref 0), (1, .ref 51), (2, .int a2), (4, .int x4)] [.int y0] S I J kc nc := by
  intro x4 y0 I kc nc hk hn h
  replace h : (∀ v16 : Int32, v16 = (x4 + 1) → (K97 y0 v16 I kc nc)) := h
  refine V_istore_n (lo2 := [(3, .int y0), (0, .ref 0), (1, .ref 51), (2, .int a2), (4, .int x4)]) dL_areAlike_187 rfl (by decide) rfl ?_
  obtain ⟨v16, e_v16⟩ : ∃ z : Int32, z = (x4 + 1) := ⟨_, rfl⟩
  replace h := h v16 e_v16
  refine V_iinc (lo2 := [(4, .int v16), (3, .int y0), (0, .ref 0), (1, .ref 51), (2, .int a2)]) 4 dL_areAlike_188 rfl (v := v16) (by rw [e_v16]; first | done | rfl) (by decide) rfl ?_
  refine V_goto 97 dL_areAlike_191 rfl ?_
  refine V_sub (lo2 := [(0, .ref 0), (1, .ref 51), (2, .int a2), (3, .int y0), (4, .int v16)]) [2, 3, 4, 1, 0] rfl ?_
  exact hK97 _ _ _ _ _ hk hn h
def wL_areAlike_97 (a2 : Int32) (post : Int32 → QI → Prop) : Nat → Int32 → Int32 → QI → Nat → Nat → Prop
  | 0, _, _, _, _, _ => False
  | n + 1, x3, x4, I, kc, nc => ((10 ≤ x4 → ((x3 = 0 ∨ x3 = 1) ∧ post x3 I)) ∧ (¬ 10 ≤ x4 → ((x3 = 0 → ((x3 = 0 ∨ x3 = 1) ∧ post x3 I)) ∧ (¬ x3 = 0 → (kc + 1 ≤ 200 ∧ nc + 6 ≤ 1200 ∧ wL_rows x4 I (fun r12 I13 => (kc + 1 + 1 ≤ 200 ∧ nc + 6 + 6 ≤ 1200 ∧ wL_rows x4 (q_sF I13) (fun r14 I57 => ∀ I15 : QI, I15 = q_sF I57 → ((¬ r12 = r14 → (wL_areAlike_187 a2 (fun u17 u18 I19 z20 z21 => (wL_areAlike_97 a2 post n u17 u18 I19 z20 z21)) post x4 0 I15 (kc + 1 + 1) (nc + 6 + 6))) ∧ (r12 = r14 → (kc + 1 + 1 + 1 ≤ 200 ∧ nc + 6 + 6 + 6 ≤ 1200 ∧ wL_steps x4 I15 (fun r22 I23 => (kc + 1 + 1 + 1 + 1 ≤ 200 ∧ nc + 6 + 6 + 6 + 6 ≤ 1200 ∧ wL_steps x4 (q_sF I23) (fun r24 I56 => ∀ I25 : QI, I25 = q_sF I56 → ((¬ r22 = r24 → (wL_areAlike_187 a2 (fun u26 u27 I28 z29 z30 => (wL_areAlike_97 a2 post n u26 u27 I28 z29 z30)) post x4 0 I25 (kc + 1 + 1 + 1 + 1) (nc + 6 + 6 + 6 + 6))) ∧ (r22 = r24 → (wL_low a2 4 I25 (fun r31 => (kc + 1 + 1 + 1 + 1 + 1 ≤ 200 ∧ nc + 6 + 6 + 6 + 6 + 6 ≤ 1200 ∧ wL_node x4 r31 I25 (fun r32 => (wL_low a2 4 I25 (fun r33 => (kc + 1 + 1 + 1 + 1 + 1 + 1 ≤ 200 ∧ nc + 6 + 6 + 6 + 6 + 6 + 6 ≤ 1200 ∧ wL_node x4 r33 (q_sF I25) (fun r34 => ((¬ r32 = r34 → (wL_areAlike_187 a2 (fun u35 u36 I37 z38 z39 => (wL_areAlike_97 a2 post n u35 u36 I37 z38 z39)) post x4 0 I25 (kc + 1 + 1 + 1 + 1 + 1 + 1) (nc + 6 + 6 + 6 + 6 + 6 + 6))) ∧ (r32 = r34 → (kc + 1 + 1 + 1 + 1 + 1 + 1 + 1 ≤ 200 ∧ nc + 6 + 6 + 6 + 6 + 6 + 6 + 6 ≤ 1200 ∧ wL_value x4 0 0 I25 (fun r40 I41 => (kc + 1 + 1 + 1 + 1 + 1 + 1 + 1 + 1 ≤ 200 ∧ nc + 6 + 6 + 6 + 6 + 6 + 6 + 6 + 6 ≤ 1200 ∧ wL_value x4 0 0 (q_sF I41) (fun r42 I54 => ∀ I43 : QI, I43 = q_sF I54 → ((¬ r40 = r42 → (wL_areAlike_187 a2 (fun u44 u45 I46 z47 z48 => (wL_areAlike_97 a2 post n u44 u45 I46 z47 z48)) post x4 0 I43 (kc + 1 + 1 + 1 + 1 + 1 + 1 + 1 + 1) (nc + 6 + 6 + 6 + 6 + 6 + 6 + 6 + 6))) ∧ (r40 = r42 → (wL_areAlike_187 a2 (fun u49 u50 I51 z52 z53 => (wL_areAlike_97 a2 post n u49 u50 I51 z52 z53)) post x4 1 I43 (kc + 1 + 1 + 1 + 1 + 1 + 1 + 1 + 1) (nc + 6 + 6 + 6 + 6 + 6 + 6 + 6 + 6))))))))))))))))))))))))))))))))))
set_option maxRecDepth 100000 in
set_option maxHeartbeats 4000000 in
theorem swL_areAlike_97 {X : QX} {S : QS} {a2 : Int32} {J : QJ} {post : Int32 → QI → Prop} (hS : Sh S) (hW : Sh (q_sS S)) (hM : 102 ≤ S.2.1) : ∀ (f : Nat) (x3 : Int32) (x4 : Int32) (I : QI) (kc : Nat) (nc : Nat), kc ≤ 200 → nc ≤ 1200 → wL_areAlike_97 a2 post f x3 x4 I kc nc → V X mL_areAlike 9 200 1200 (q_Pi S (fun r I2 J2 => J = J2 ∧ post r I2)) 97 [(0, .ref 0), (1, .ref 51), (2, .int a2), (3, .int x3), (4, .int x4)] [] S I J kc nc := by
  intro f
  induction f with
  | zero => intro x3 x4 I kc nc hk hn h; exact h.elim
  | succ n ih =>
    intro x3 x4 I kc nc hk hn h
    replace h : ((10 ≤ x4 → ((x3 = 0 ∨ x3 = 1) ∧ post x3 I)) ∧ (¬ 10 ≤ x4 → ((x3 = 0 → ((x3 = 0 ∨ x3 = 1) ∧ post x3 I)) ∧ (¬ x3 = 0 → (kc + 1 ≤ 200 ∧ nc + 6 ≤ 1200 ∧ wL_rows x4 I (fun r12 I13 => (kc + 1 + 1 ≤ 200 ∧ nc + 6 + 6 ≤ 1200 ∧ wL_rows x4 (q_sF I13) (fun r14 I57 => ∀ I15 : QI, I15 = q_sF I57 → ((¬ r12 = r14 → (wL_areAlike_187 a2 (fun u17 u18 I19 z20 z21 => (wL_areAlike_97 a2 post n u17 u18 I19 z20 z21)) post x4 0 I15 (kc + 1 + 1) (nc + 6 + 6))) ∧ (r12 = r14 → (kc + 1 + 1 + 1 ≤ 200 ∧ nc + 6 + 6 + 6 ≤ 1200 ∧ wL_steps x4 I15 (fun r22 I23 => (kc + 1 + 1 + 1 + 1 ≤ 200 ∧ nc + 6 + 6 + 6 + 6 ≤ 1200 ∧ wL_steps x4 (q_sF I23) (fun r24 I56 => ∀ I25 : QI, I25 = q_sF I56 → ((¬ r22 = r24 → (wL_areAlike_187 a2 (fun u26 u27 I28 z29 z30 => (wL_areAlike_97 a2 post n u26 u27 I28 z29 z30)) post x4 0 I25 (kc + 1 + 1 + 1 + 1) (nc + 6 + 6 + 6 + 6))) ∧ (r22 = r24 → (wL_low a2 4 I25 (fun r31 => (kc + 1 + 1 + 1 + 1 + 1 ≤ 200 ∧ nc + 6 + 6 + 6 + 6 + 6 ≤ 1200 ∧ wL_node x4 r31 I25 (fun r32 => (wL_low a2 4 I25 (fun r33 => (kc + 1 + 1 + 1 + 1 + 1 + 1 ≤ 200 ∧ nc + 6 + 6 + 6 + 6 + 6 + 6 ≤ 1200 ∧ wL_node x4 r33 (q_sF I25) (fun r34 => ((¬ r32 = r34 → (wL_areAlike_187 a2 (fun u35 u36 I37 z38 z39 => (wL_areAlike_97 a2 post n u35 u36 I37 z38 z39)) post x4 0 I25 (kc + 1 + 1 + 1 + 1 + 1 + 1) (nc + 6 + 6 + 6 + 6 + 6 + 6))) ∧ (r32 = r34 → (kc + 1 + 1 + 1 + 1 + 1 + 1 + 1 ≤ 200 ∧ nc + 6 + 6 + 6 + 6 + 6 + 6 + 6 ≤ 1200 ∧ wL_value x4 0 0 I25 (fun r40 I41 => (kc + 1 + 1 + 1 + 1 + 1 + 1 + 1 + 1 ≤ 200 ∧ nc + 6 + 6 + 6 + 6 + 6 + 6 + 6 + 6 ≤ 1200 ∧ wL_value x4 0 0 (q_sF I41) (fun r42 I54 => ∀ I43 : QI, I43 = q_sF I54 → ((¬ r40 = r42 → (wL_areAlike_187 a2 (fun u44 u45 I46 z47 z48 => (wL_areAlike_97 a2 post n u44 u45 I46 z47 z48)) post x4 0 I43 (kc + 1 + 1 + 1 + 1 + 1 + 1 + 1 + 1) (nc + 6 + 6 + 6 + 6 + 6 + 6 + 6 + 6))) ∧ (r40 = r42 → (wL_areAlike_187 a2 (fun u49 u50 I51 z52 z53 => (wL_areAlike_97 a2 post n u49 u50 I51 z52 z53)) post x4 1 I43 (kc + 1 + 1 + 1 + 1 + 1 + 1 + 1 + 1) (nc + 6 + 6 + 6 + 6 + 6 + 6 + 6 + 6)))))))))))))))))))))))))))))))))) := h
    refine V_iload dL_areAlike_97 rfl ?_
    refine V_bipush (v := 10) dL_areAlike_99 (by decide) ?_
    refine V_icmp_ge 194 dL_areAlike_101 rfl (fun hc => ?_) (fun hc => ?_)
    · replace h := h.1 hc
      refine V_iload_n dL_areAlike_194 rfl rfl ?_
      obtain ⟨hz, h⟩ := h
      exact V_zret dL_areAlike_195 rfl (q_nz hz) hk hn ⟨_, rfl, rfl, rfl, h⟩
    · replace h := h.2 hc
      refine V_iload_n dL_areAlike_104 rfl rfl ?_
      refine V_if_eq 194 dL_areAlike_105 rfl (fun hc => ?_) (fun hc => ?_)
      · replace h := h.1 hc
        refine V_iload_n dL_areAlike_194 rfl rfl ?_
        obtain ⟨hz, h⟩ := h
        exact V_zret dL_areAlike_195 rfl (q_nz hz) hk hn ⟨_, rfl, rfl, rfl, h⟩
      · replace h := h.2 hc
        refine V_aload_n dL_areAlike_108 rfl rfl ?_
        refine V_iload dL_areAlike_109 rfl ?_
        obtain ⟨hk9, hn9, h⟩ := h
        refine V_callSXi (st := []) [.ref 0, .int x4] dL_areAlike_111 ok_mL_rows (by decide) ml_RL_120 st_mL_rows (Nat.le_of_ble_eq_true rfl) (by decide) hk9 hn9 (s_mL_rows hS h) (fun r12 I13 J9 h => ?_)
        clear hk hn
        have hk := hk9
        have hn := hn9
        obtain ⟨rfl, h⟩ := h
        refine V_aload_n dL_areAlike_114 rfl rfl ?_
        refine V_iload dL_areAlike_115 rfl ?_
        obtain ⟨hk9, hn9, h⟩ := h
        refine V_callSXi (st := [.int r12]) [.ref 51, .int x4] dL_areAlike_117 ok_mL_rows (by decide) ml_RL_120 st_mL_rows (Nat.le_of_ble_eq_true rfl) (by decide) hk9 hn9 (CX.sw (av := [.ref 0, .int x4]) hM (s_mL_rows hW h)) (fun r14 I15 J9 h => ?_)
        clear hk hn
        have hk := hk9
        have hn := hn9
        obtain ⟨e9, h⟩ := h
        obtain rfl := q_sF_inj e9
        replace h := h I15 (q_sF_sF I15).symm
        refine V_icmp_ne 186 dL_areAlike_120 rfl (fun hc => ?_) (fun hc => ?_)
        · replace h := h.1 hc
          refine V_iconst (v := 0) dL_areAlike_186 (by decide) ?_
          refine V_sub (lo2 := [(0, .ref 0), (1, .ref 51), (2, .int a2), (4, .int x4)]) [0, 1, 2, 4] rfl ?_
          refine swL_areAlike_187 hS hW hM ?_ _ _ _ _ _ hk hn h
          · intro u17 u18 I19 z20 z21 hk hn h
            exact ih _ _ _ _ _ hk hn h
        · replace h := h.2 hc
          refine V_aload_n dL_areAlike_123 rfl rfl ?_
          refine V_iload dL_areAlike_124 rfl ?_
          obtain ⟨hk9, hn9, h⟩ := h
          refine V_callSXi (st := []) [.ref 0, .int x4] dL_areAlike_126 ok_mL_steps (by decide) ml_RL_127 st_mL_steps (Nat.le_of_ble_eq_true rfl) (by decide) hk9 hn9 (s_mL_steps hS h) (fun r22 I23 J9 h => ?_)
          clear hk hn
          have hk := hk9
          have hn := hn9
          obtain ⟨rfl, h⟩ := h
          refine V_aload_n dL_areAlike_129 rfl rfl ?_
          refine V_iload dL_areAlike_130 rfl ?_
          obtain ⟨hk9, hn9, h⟩ := h
          refine V_callSXi (st := [.int r22]) [.ref 51, .int x4] dL_areAlike_132 ok_mL_steps (by decide) ml_RL_127 st_mL_steps (Nat.le_of_ble_eq_true rfl) (by decide) hk9 hn9 (CX.sw (av := [.ref 0, .int x4]) hM (s_mL_steps hW h)) (fun r24 I25 J9 h => ?_)
          clear hk hn
          have hk := hk9
          have hn := hn9
          obtain ⟨e9, h⟩ := h
          obtain rfl := q_sF_inj e9
          replace h := h I25 (q_sF_sF I25).symm
          refine V_icmp_ne 186 dL_areAlike_135 rfl (fun hc => ?_) (fun hc => ?_)
          · replace h := h.1 hc
            refine V_iconst (v := 0) dL_areAlike_186 (by decide) ?_
            refine V_sub (lo2 := [(0, .ref 0), (1, .ref 51), (2, .int a2), (4, .int x4)]) [0, 1, 2, 4] rfl ?_
            refine swL_areAlike_187 hS hW hM ?_ _ _ _ _ _ hk hn h
            · intro u26 u27 I28 z29 z30 hk hn h
              exact ih _ _ _ _ _ hk hn h
          · replace h := h.2 hc
            refine V_aload_n dL_areAlike_138 rfl rfl ?_
            refine V_iload dL_areAlike_139 rfl ?_
            refine V_iload_n dL_areAlike_141 rfl rfl ?_
            refine V_iconst (v := 4) dL_areAlike_142 (by decide) ?_
            refine V_callSi (st := [.int x4, .ref 0]) [.int a2, .int 4] dL_areAlike_143 ok_mL_low rfl ml_RL_92 st_mL_low (Nat.le_of_ble_eq_true rfl) (by decide) hk hn (s_mL_low hS h) (fun r31 I9 J9 h => ?_)
            obtain ⟨rfl, rfl, h⟩ := h
            obtain ⟨hk9, hn9, h⟩ := h
            refine V_callSXi (st := []) [.ref 0, .int x4, .int r31] dL_areAlike_146 ok_mL_node (by decide) ml_RL_148 st_mL_node (Nat.le_of_ble_eq_true rfl) (by decide) hk9 hn9 (s_mL_node hS h) (fun r32 I9 J9 h => ?_)
            clear hk hn
            have hk := hk9
            have hn := hn9
            obtain ⟨rfl, rfl, h⟩ := h
            refine V_aload_n dL_areAlike_149 rfl rfl ?_
            refine V_iload dL_areAlike_150 rfl ?_
            refine V_iload_n dL_areAlike_152 rfl rfl ?_
            refine V_iconst (v := 4) dL_areAlike_153 (by decide) ?_
            refine V_callSi (st := [.int x4, .ref 51, .int r32]) [.int a2, .int 4] dL_areAlike_154 ok_mL_low rfl ml_RL_92 st_mL_low (Nat.le_of_ble_eq_true rfl) (by decide) hk hn (s_mL_low hS h) (fun r33 I9 J9 h => ?_)
            obtain ⟨rfl, rfl, h⟩ := h
            obtain ⟨hk9, hn9, h⟩ := h
            refine V_callSXi (st := [.int r32]) [.ref 51, .int x4, .int r33] dL_areAlike_157 ok_mL_node (by decide) ml_RL_148 st_mL_node (Nat.le_of_ble_eq_true rfl) (by decide) hk9 hn9 (CX.sw (av := [.ref 0, .int x4, .int r33]) hM (s_mL_node hW h)) (fun r34 I9 J9 h => ?_)
            clear hk hn
            have hk := hk9
            have hn := hn9
            obtain ⟨e8, e9, h⟩ := h
            obtain rfl := q_sF_inj e8
            obtain rfl := q_sF_inj e9
            refine V_icmp_ne 186 dL_areAlike_160 rfl (fun hc => ?_) (fun hc => ?_)
            · replace h := h.1 hc
              refine V_iconst (v := 0) dL_areAlike_186 (by decide) ?_
              refine V_sub (lo2 := [(0, .ref 0), (1, .ref 51), (2, .int a2), (4, .int x4)]) [0, 1, 2, 4] rfl ?_
              refine swL_areAlike_187 hS hW hM ?_ _ _ _ _ _ hk hn h
              · intro u35 u36 I37 z38 z39 hk hn h
                exact ih _ _ _ _ _ hk hn h
            · replace h := h.2 hc
              refine V_aload_n dL_areAlike_163 rfl rfl ?_
              refine V_iload dL_areAlike_164 rfl ?_
              refine V_iconst (v := 0) dL_areAlike_166 (by decide) ?_
              refine V_iconst (v := 0) dL_areAlike_167 (by decide) ?_
              obtain ⟨hk9, hn9, h⟩ := h
              refine V_callSXi (st := []) [.ref 0, .int x4, .int 0, .int 0] dL_areAlike_168 ok_mL_value (by decide) ml_RL_122 st_mL_value (Nat.le_of_ble_eq_true rfl) (by decide) hk9 hn9 (s_mL_value hS h) (fun r40 I41 J9 h => ?_)
              clear hk hn
              have hk := hk9
              have hn := hn9
              obtain ⟨rfl, h⟩ := h
              refine V_aload_n dL_areAlike_171 rfl rfl ?_
              refine V_iload dL_areAlike_172 rfl ?_
              refine V_iconst (v := 0) dL_areAlike_174 (by decide) ?_
              refine V_iconst (v := 0) dL_areAlike_175 (by decide) ?_
              obtain ⟨hk9, hn9, h⟩ := h
              refine V_callSXi (st := [.int r40]) [.ref 51, .int x4, .int 0, .int 0] dL_areAlike_176 ok_mL_value (by decide) ml_RL_122 st_mL_value (Nat.le_of_ble_eq_true rfl) (by decide) hk9 hn9 (CX.sw (av := [.ref 0, .int x4, .int 0, .int 0]) hM (s_mL_value hW h)) (fun r42 I43 J9 h => ?_)
              clear hk hn
              have hk := hk9
              have hn := hn9
              obtain ⟨e9, h⟩ := h
              obtain rfl := q_sF_inj e9
              replace h := h I43 (q_sF_sF I43).symm
              refine V_icmp_ne 186 dL_areAlike_179 rfl (fun hc => ?_) (fun hc => ?_)
              · replace h := h.1 hc
                refine V_iconst (v := 0) dL_areAlike_186 (by decide) ?_
                refine V_sub (lo2 := [(0, .ref 0), (1, .ref 51), (2, .int a2), (4, .int x4)]) [0, 1, 2, 4] rfl ?_
                refine swL_areAlike_187 hS hW hM ?_ _ _ _ _ _ hk hn h
                · intro u44 u45 I46 z47 z48 hk hn h
                  exact ih _ _ _ _ _ hk hn h
              · replace h := h.2 hc
                refine V_iconst (v := 1) dL_areAlike_182 (by decide) ?_
                refine V_goto 187 dL_areAlike_183 rfl ?_
                refine V_sub (lo2 := [(0, .ref 0), (1, .ref 51), (2, .int a2), (4, .int x4)]) [0, 1, 2, 4] rfl ?_
                refine swL_areAlike_187 hS hW hM ?_ _ _ _ _ _ hk hn h
                · intro u49 u50 I51 z52 z53 hk hn h
                  exact ih _ _ _ _ _ hk hn h
def wL_areAlike (a2 : Int32) (I : QI) (post : Int32 → QI → Prop) : Prop := (wL_low a2 3 I (fun r1 => (0 + 1 ≤ 200 ∧ 0 + 6 ≤ 1200 ∧ wL_ways r1 I (fun r2 I3 => (wL_low a2 3 I3 (fun r4 => (0 + 1 + 1 ≤ 200 ∧ 0 + 6 + 6 ≤ 1200 ∧ wL_ways r4 (q_sF I3) (fun r5 I95 => ∀ I6 : QI, I6 = q_sF I95 → ((¬ r2 = r5 → (wL_areAlike_93 a2 (fun u7 u8 I9 z10 z11 => (∃ f : Nat, wL_areAlike_97 a2 post f u7 u8 I9 z10 z11)) post 0 I6 (0 + 1 + 1) (0 + 6 + 6))) ∧ (r2 = r5 → (wL_low a2 15 I6 (fun r58 => (0 + 1 + 1 + 1 ≤ 200 ∧ 0 + 6 + 6 + 6 ≤ 1200 ∧ wL_estimate (1 + r58) I6 (fun r59 I60 => (wL_low a2 15 I60 (fun r61 => (0 + 1 + 1 + 1 + 1 ≤ 200 ∧ 0 + 6 + 6 + 6 + 6 ≤ 1200 ∧ wL_estimate (1 + r61) (q_sF I60) (fun r62 I94 => ∀ I63 : QI, I63 = q_sF I94 → ((¬ r59 = r62 → (wL_areAlike_93 a2 (fun u64 u65 I66 z67 z68 => (∃ f : Nat, wL_areAlike_97 a2 post f u64 u65 I66 z67 z68)) post 0 I63 (0 + 1 + 1 + 1 + 1) (0 + 6 + 6 + 6 + 6))) ∧ (r59 = r62 → (wL_low a2 15 I63 (fun r69 => (0 + 1 + 1 + 1 + 1 + 1 ≤ 200 ∧ 0 + 6 + 6 + 6 + 6 + 6 ≤ 1200 ∧ wL_split (1 + r69) I63 (fun r70 I71 => (wL_low a2 15 I71 (fun r72 => (0 + 1 + 1 + 1 + 1 + 1 + 1 ≤ 200 ∧ 0 + 6 + 6 + 6 + 6 + 6 + 6 ≤ 1200 ∧ wL_split (1 + r72) (q_sF I71) (fun r73 I93 => ∀ I74 : QI, I74 = q_sF I93 → ((¬ r70 = r73 → (wL_areAlike_93 a2 (fun u75 u76 I77 z78 z79 => (∃ f : Nat, wL_areAlike_97 a2 post f u75 u76 I77 z78 z79)) post 0 I74 (0 + 1 + 1 + 1 + 1 + 1 + 1) (0 + 6 + 6 + 6 + 6 + 6 + 6))) ∧ (r70 = r73 → (0 + 1 + 1 + 1 + 1 + 1 + 1 + 1 ≤ 200 ∧ 0 + 6 + 6 + 6 + 6 + 6 + 6 + 6 ≤ 1200 ∧ wL_different 0 I74 (fun r80 => (0 + 1 + 1 + 1 + 1 + 1 + 1 + 1 + 1 ≤ 200 ∧ 0 + 6 + 6 + 6 + 6 + 6 + 6 + 6 + 6 ≤ 1200 ∧ wL_different 0 (q_sF I74) (fun r81 => ((¬ r80 = r81 → (wL_areAlike_93 a2 (fun u82 u83 I84 z85 z86 => (∃ f : Nat, wL_areAlike_97 a2 post f u82 u83 I84 z85 z86)) post 0 I74 (0 + 1 + 1 + 1 + 1 + 1 + 1 + 1 + 1) (0 + 6 + 6 + 6 + 6 + 6 + 6 + 6 + 6))) ∧ (r80 = r81 → (wL_areAlike_93 a2 (fun u87 u88 I89 z90 z91 => (∃ f : Nat, wL_areAlike_97 a2 post f u87 u88 I89 z90 z91)) post 1 I74 (0 + 1 + 1 + 1 + 1 + 1 + 1 + 1 + 1) (0 + 6 + 6 + 6 + 6 + 6 + 6 + 6 + 6))))))))))))))))))))))))))))))))))))))
set_option maxRecDepth 100000 in
set_option maxHeartbeats 4000000 in
theorem s_mL_areAlike {X : QX} {S : QS} {a2 : Int32} {I : QI} {J : QJ} {post : Int32 → QI → Prop} (hS : Sh S) (hW : Sh (q_sS S)) (hM : 102 ≤ S.2.1) (h : wL_areAlike a2 I post) : CX X mL_areAlike 9 200 1200 [.ref 0, .ref 51, .int a2] S I J (q_Pi S (fun r I2 J2 => J = J2 ∧ post r I2)) := by
  refine CX.of (lo := [(0, .ref 0), (1, .ref 51), (2, .int a2)]) ok_mL_areAlike rfl (Nat.le_of_ble_eq_true rfl) rfl ?_
  have hk : 0 ≤ 200 := Nat.zero_le _
  have hn : 0 ≤ 1200 := Nat.zero_le _
  replace h : (wL_low a2 3 I (fun r1 => (0 + 1 ≤ 200 ∧ 0 + 6 ≤ 1200 ∧ wL_ways r1 I (fun r2 I3 => (wL_low a2 3 I3 (fun r4 => (0 + 1 + 1 ≤ 200 ∧ 0 + 6 + 6 ≤ 1200 ∧ wL_ways r4 (q_sF I3) (fun r5 I95 => ∀ I6 : QI, I6 = q_sF I95 → ((¬ r2 = r5 → (wL_areAlike_93 a2 (fun u7 u8 I9 z10 z11 => (∃ f : Nat, wL_areAlike_97 a2 post f u7 u8 I9 z10 z11)) post 0 I6 (0 + 1 + 1) (0 + 6 + 6))) ∧ (r2 = r5 → (wL_low a2 15 I6 (fun r58 => (0 + 1 + 1 + 1 ≤ 200 ∧ 0 + 6 + 6 + 6 ≤ 1200 ∧ wL_estimate (1 + r58) I6 (fun r59 I60 => (wL_low a2 15 I60 (fun r61 => (0 + 1 + 1 + 1 + 1 ≤ 200 ∧ 0 + 6 + 6 + 6 + 6 ≤ 1200 ∧ wL_estimate (1 + r61) (q_sF I60) (fun r62 I94 => ∀ I63 : QI, I63 = q_sF I94 → ((¬ r59 = r62 → (wL_areAlike_93 a2 (fun u64 u65 I66 z67 z68 => (∃ f : Nat, wL_areAlike_97 a2 post f u64 u65 I66 z67 z68)) post 0 I63 (0 + 1 + 1 + 1 + 1) (0 + 6 + 6 + 6 + 6))) ∧ (r59 = r62 → (wL_low a2 15 I63 (fun r69 => (0 + 1 + 1 + 1 + 1 + 1 ≤ 200 ∧ 0 + 6 + 6 + 6 + 6 + 6 ≤ 1200 ∧ wL_split (1 + r69) I63 (fun r70 I71 => (wL_low a2 15 I71 (fun r72 => (0 + 1 + 1 + 1 + 1 + 1 + 1 ≤ 200 ∧ 0 + 6 + 6 + 6 + 6 + 6 + 6 ≤ 1200 ∧ wL_split (1 + r72) (q_sF I71) (fun r73 I93 => ∀ I74 : QI, I74 = q_sF I93 → ((¬ r70 = r73 → (wL_areAlike_93 a2 (fun u75 u76 I77 z78 z79 => (∃ f : Nat, wL_areAlike_97 a2 post f u75 u76 I77 z78 z79)) post 0 I74 (0 + 1 + 1 + 1 + 1 + 1 + 1) (0 + 6 + 6 + 6 + 6 + 6 + 6))) ∧ (r70 = r73 → (0 + 1 + 1 + 1 + 1 + 1 + 1 + 1 ≤ 200 ∧ 0 + 6 + 6 + 6 + 6 + 6 + 6 + 6 ≤ 1200 ∧ wL_different 0 I74 (fun r80 => (0 + 1 + 1 + 1 + 1 + 1 + 1 + 1 + 1 ≤ 200 ∧ 0 + 6 + 6 + 6 + 6 + 6 + 6 + 6 + 6 ≤ 1200 ∧ wL_different 0 (q_sF I74) (fun r81 => ((¬ r80 = r81 → (wL_areAlike_93 a2 (fun u82 u83 I84 z85 z86 => (∃ f : Nat, wL_areAlike_97 a2 post f u82 u83 I84 z85 z86)) post 0 I74 (0 + 1 + 1 + 1 + 1 + 1 + 1 + 1 + 1) (0 + 6 + 6 + 6 + 6 + 6 + 6 + 6 + 6))) ∧ (r80 = r81 → (wL_areAlike_93 a2 (fun u87 u88 I89 z90 z91 => (∃ f : Nat, wL_areAlike_97 a2 post f u87 u88 I89 z90 z91)) post 1 I74 (0 + 1 + 1 + 1 + 1 + 1 + 1 + 1 + 1) (0 + 6 + 6 + 6 + 6 + 6 + 6 + 6 + 6)))))))))))))))))))))))))))))))))))))) := h
  refine V_aload_n dL_areAlike_0 rfl rfl ?_
  refine V_iload_n dL_areAlike_1 rfl rfl ?_
  refine V_iconst (v := 3) dL_areAlike_2 (by decide) ?_
  refine V_callSi (st := [.ref 0]) [.int a2, .int 3] dL_areAlike_3 ok_mL_low rfl ml_RL_92 st_mL_low (Nat.le_of_ble_eq_true rfl) (by decide) hk hn (s_mL_low hS h) (fun r1 I9 J9 h => ?_)
  obtain ⟨rfl, rfl, h⟩ := h
  obtain ⟨hk9, hn9, h⟩ := h
  refine V_callSXi (st := []) [.ref 0, .int r1] dL_areAlike_6 ok_mL_ways (by decide) ml_RL_140 st_mL_ways (Nat.le_of_ble_eq_true rfl) (by decide) hk9 hn9 (s_mL_ways hS h) (fun r2 I3 J9 h => ?_)
  clear hk hn
  have hk := hk9
  have hn := hn9
  obtain ⟨rfl, h⟩ := h
  refine V_aload_n dL_areAlike_9 rfl rfl ?_
  refine V_iload_n dL_areAlike_10 rfl rfl ?_
  refine V_iconst (v := 3) dL_areAlike_11 (by decide) ?_
  refine V_callSi (st := [.ref 51, .int r2]) [.int a2, .int 3] dL_areAlike_12 ok_mL_low rfl ml_RL_92 st_mL_low (Nat.le_of_ble_eq_true rfl) (by decide) hk hn (s_mL_low hS h) (fun r4 I9 J9 h => ?_)
  obtain ⟨rfl, rfl, h⟩ := h
  obtain ⟨hk9, hn9, h⟩ := h
  refine V_callSXi (st := [.int r2]) [.ref 51, .int r4] dL_areAlike_15 ok_mL_ways (by decide) ml_RL_140 st_mL_ways (Nat.le_of_ble_eq_true rfl) (by decide) hk9 hn9 (CX.sw (av := [.ref 0, .int r4]) hM (s_mL_ways hW h)) (fun r5 I6 J9 h => ?_)
  clear hk hn
  have hk := hk9
  have hn := hn9
  obtain ⟨e9, h⟩ := h
  obtain rfl := q_sF_inj e9
  replace h := h I6 (q_sF_sF I6).symm
  refine V_icmp_ne 92 dL_areAlike_18 rfl (fun hc => ?_) (fun hc => ?_)
  · replace h := h.1 hc
    refine V_iconst (v := 0) dL_areAlike_92 (by decide) ?_
    refine swL_areAlike_93 hS hW hM ?_ _ _ _ _ hk hn h
    · intro u7 u8 I9 z10 z11 hk hn h
      obtain ⟨f9, h⟩ := h
      refine swL_areAlike_97 hS hW hM f9 _ _ _ _ _ hk hn h
  · replace h := h.2 hc
    refine V_aload_n dL_areAlike_21 rfl rfl ?_
    refine V_iconst (v := 1) dL_areAlike_22 (by decide) ?_
    refine V_iload_n dL_areAlike_23 rfl rfl ?_
    refine V_bipush (v := 15) dL_areAlike_24 (by decide) ?_
    refine V_callSi (st := [.int 1, .ref 0]) [.int a2, .int 15] dL_areAlike_26 ok_mL_low rfl ml_RL_92 st_mL_low (Nat.le_of_ble_eq_true rfl) (by decide) hk hn (s_mL_low hS h) (fun r58 I9 J9 h => ?_)
    obtain ⟨rfl, rfl, h⟩ := h
    refine V_iadd dL_areAlike_29 ?_
    obtain ⟨hk9, hn9, h⟩ := h
    refine V_callSXi (st := []) [.ref 0, .int (1 + r58)] dL_areAlike_30 ok_mL_estimate (by decide) ml_RL_142 st_mL_estimate (Nat.le_of_ble_eq_true rfl) (by decide) hk9 hn9 (s_mL_estimate hS h) (fun r59 I60 J9 h => ?_)
    clear hk hn
    have hk := hk9
    have hn := hn9
    obtain ⟨rfl, h⟩ := h
    refine V_aload_n dL_areAlike_33 rfl rfl ?_
    refine V_iconst (v := 1) dL_areAlike_34 (by decide) ?_
    refine V_iload_n dL_areAlike_35 rfl rfl ?_
    refine V_bipush (v := 15) dL_areAlike_36 (by decide) ?_
    refine V_callSi (st := [.int 1, .ref 51, .int r59]) [.int a2, .int 15] dL_areAlike_38 ok_mL_low rfl ml_RL_92 st_mL_low (Nat.le_of_ble_eq_true rfl) (by decide) hk hn (s_mL_low hS h) (fun r61 I9 J9 h => ?_)
    obtain ⟨rfl, rfl, h⟩ := h
    refine V_iadd dL_areAlike_41 ?_
    obtain ⟨hk9, hn9, h⟩ := h
    refine V_callSXi (st := [.int r59]) [.ref 51, .int (1 + r61)] dL_areAlike_42 ok_mL_estimate (by decide) ml_RL_142 st_mL_estimate (Nat.le_of_ble_eq_true rfl) (by decide) hk9 hn9 (CX.sw (av := [.ref 0, .int (1 + r61)]) hM (s_mL_estimate hW h)) (fun r62 I63 J9 h => ?_)
    clear hk hn
    have hk := hk9
    have hn := hn9
    obtain ⟨e9, h⟩ := h
    obtain rfl := q_sF_inj e9
    replace h := h I63 (q_sF_sF I63).symm
    refine V_icmp_ne 92 dL_areAlike_45 rfl (fun hc => ?_) (fun hc => ?_)
    · replace h := h.1 hc
      refine V_iconst (v := 0) dL_areAlike_92 (by decide) ?_
      refine swL_areAlike_93 hS hW hM ?_ _ _ _ _ hk hn h
      · intro u64 u65 I66 z67 z68 hk hn h
        obtain ⟨f9, h⟩ := h
        refine swL_areAlike_97 hS hW hM f9 _ _ _ _ _ hk hn h
    · replace h := h.2 hc
      refine V_aload_n dL_areAlike_48 rfl rfl ?_
      refine V_iconst (v := 1) dL_areAlike_49 (by decide) ?_
      refine V_iload_n dL_areAlike_50 rfl rfl ?_
      refine V_bipush (v := 15) dL_areAlike_51 (by decide) ?_
      refine V_callSi (st := [.int 1, .ref 0]) [.int a2, .int 15] dL_areAlike_53 ok_mL_low rfl ml_RL_92 st_mL_low (Nat.le_of_ble_eq_true rfl) (by decide) hk hn (s_mL_low hS h) (fun r69 I9 J9 h => ?_)
      obtain ⟨rfl, rfl, h⟩ := h
      refine V_iadd dL_areAlike_56 ?_
      obtain ⟨hk9, hn9, h⟩ := h
      refine V_callSXi (st := []) [.ref 0, .int (1 + r69)] dL_areAlike_57 ok_mL_split (by decide) ml_RL_144 st_mL_split (Nat.le_of_ble_eq_true rfl) (by decide) hk9 hn9 (s_mL_split hS h) (fun r70 I71 J9 h => ?_)
      clear hk hn
      have hk := hk9
      have hn := hn9
      obtain ⟨rfl, h⟩ := h
      refine V_aload_n dL_areAlike_60 rfl rfl ?_
      refine V_iconst (v := 1) dL_areAlike_61 (by decide) ?_
      refine V_iload_n dL_areAlike_62 rfl rfl ?_
      refine V_bipush (v := 15) dL_areAlike_63 (by decide) ?_
      refine V_callSi (st := [.int 1, .ref 51, .int r70]) [.int a2, .int 15] dL_areAlike_65 ok_mL_low rfl ml_RL_92 st_mL_low (Nat.le_of_ble_eq_true rfl) (by decide) hk hn (s_mL_low hS h) (fun r72 I9 J9 h => ?_)
      obtain ⟨rfl, rfl, h⟩ := h
      refine V_iadd dL_areAlike_68 ?_
      obtain ⟨hk9, hn9, h⟩ := h
      refine V_callSXi (st := [.int r70]) [.ref 51, .int (1 + r72)] dL_areAlike_69 ok_mL_split (by decide) ml_RL_144 st_mL_split (Nat.le_of_ble_eq_true rfl) (by decide) hk9 hn9 (CX.sw (av := [.ref 0, .int (1 + r72)]) hM (s_mL_split hW h)) (fun r73 I74 J9 h => ?_)
      clear hk hn
      have hk := hk9
      have hn := hn9
      obtain ⟨e9, h⟩ := h
      obtain rfl := q_sF_inj e9
      replace h := h I74 (q_sF_sF I74).symm
      refine V_icmp_ne 92 dL_areAlike_72 rfl (fun hc => ?_) (fun hc => ?_)
      · replace h := h.1 hc
        refine V_iconst (v := 0) dL_areAlike_92 (by decide) ?_
        refine swL_areAlike_93 hS hW hM ?_ _ _ _ _ hk hn h
        · intro u75 u76 I77 z78 z79 hk hn h
          obtain ⟨f9, h⟩ := h
          refine swL_areAlike_97 hS hW hM f9 _ _ _ _ _ hk hn h
      · replace h := h.2 hc
        refine V_aload_n dL_areAlike_75 rfl rfl ?_
        refine V_iconst (v := 0) dL_areAlike_76 (by decide) ?_
        obtain ⟨hk9, hn9, h⟩ := h
        refine V_callSXi (st := []) [.ref 0, .int 0] dL_areAlike_77 ok_mL_different (by decide) ml_RL_146 st_mL_different (Nat.le_of_ble_eq_true rfl) (by decide) hk9 hn9 (s_mL_different hS h) (fun r80 I9 J9 h => ?_)
        clear hk hn
        have hk := hk9
        have hn := hn9
        obtain ⟨rfl, rfl, h⟩ := h
        refine V_aload_n dL_areAlike_80 rfl rfl ?_
        refine V_iconst (v := 0) dL_areAlike_81 (by decide) ?_
        obtain ⟨hk9, hn9, h⟩ := h
        refine V_callSXi (st := [.int r80]) [.ref 51, .int 0] dL_areAlike_82 ok_mL_different (by decide) ml_RL_146 st_mL_different (Nat.le_of_ble_eq_true rfl) (by decide) hk9 hn9 (CX.sw (av := [.ref 0, .int 0]) hM (s_mL_different hW h)) (fun r81 I9 J9 h => ?_)
        clear hk hn
        have hk := hk9
        have hn := hn9
        obtain ⟨e8, e9, h⟩ := h
        obtain rfl := q_sF_inj e8
        obtain rfl := q_sF_inj e9
        refine V_icmp_ne 92 dL_areAlike_85 rfl (fun hc => ?_) (fun hc => ?_)
        · replace h := h.1 hc
          refine V_iconst (v := 0) dL_areAlike_92 (by decide) ?_
          refine swL_areAlike_93 hS hW hM ?_ _ _ _ _ hk hn h
          · intro u82 u83 I84 z85 z86 hk hn h
            obtain ⟨f9, h⟩ := h
            refine swL_areAlike_97 hS hW hM f9 _ _ _ _ _ hk hn h
        · replace h := h.2 hc
          refine V_iconst (v := 1) dL_areAlike_88 (by decide) ?_
          refine V_goto 93 dL_areAlike_89 rfl ?_
          refine swL_areAlike_93 hS hW hM ?_ _ _ _ _ hk hn h
          · intro u87 u88 I89 z90 z91 hk hn h
            obtain ⟨f9, h⟩ := h
            refine swL_areAlike_97 hS hW hM f9 _ _ _ _ _ hk hn h
