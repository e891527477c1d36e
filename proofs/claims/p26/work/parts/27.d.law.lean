def mL_law : MD := (RL, yL_law, cL_law, 8, (some .boolean), [])
def wL_law_57 (X : QX) (K78 : Int32 → Int32 → QI → QS → Nat → Nat → Prop) (post : Int32 → Prop) (x3 : Int32) (x4 : Int32) (I : QI) (S : QS) (kc : Nat) (nc : Nat) : Prop := ((¬ (x3 - x3 / 18 * 18) = 17 → (K78 x3 x4 I S kc nc)) ∧ ((x3 - x3 / 18 * 18) = 17 → (kc + 200 ≤ 600086 ∧ nc + 1200 ≤ 7301442 ∧ wL_areAlike (x4 >>> (3 &&& 31)) I (fun r4 I5 => ((r4 = 0 → post 0) ∧ (¬ r4 = 0 → (K78 x3 x4 I5 S (kc + 200) (nc + 1200))))))))
set_option maxRecDepth 100000 in
set_option maxHeartbeats 4000000 in
theorem swL_law_57 {X : QX} {J : QJ} {K78 : Int32 → Int32 → QI → QS → Nat → Nat → Prop} {post : Int32 → Prop}  (hK78 : ∀ (z3 : Int32) (z4 : Int32) (I : QI) (S : QS) (kc : Nat) (nc : Nat), Sl X S → kc ≤ 600086 → nc ≤ 7301442 → K78 z3 z4 I S kc nc → V X mL_law 1000 600086 7301442 (fun o _ _ _ => ∃ r : Int32, o = .inl (some (.int r)) ∧ post r) 78 [(0, .ref 1000000), (1, .ref 0), (2, .ref 51), (3, .int z3), (4, .int z4)] [] S I J kc nc) : ∀ (x3 : Int32) (x4 : Int32) (I : QI) (S : QS) (kc : Nat) (nc : Nat), Sl X S → kc ≤ 600086 → nc ≤ 7301442 → wL_law_57 X K78 post x3 x4 I S kc nc → V X mL_law 1000 600086 7301442 (fun o _ _ _ => ∃ r : Int32, o = .inl (some (.int r)) ∧ post r) 57 [(0, .ref 1000000), (1, .ref 0), (2, .ref 51), (3, .int x3), (4, .int x4)] [] S I J kc nc := by
  intro x3 x4 I S kc nc hA hk hn h
  have hS := hA.1
  have hW := hA.2.1
  have hM := hA.2.2.1
  have hScr := hA.2.2.2.2.2
  replace h : ((¬ (x3 - x3 / 18 * 18) = 17 → (K78 x3 x4 I S kc nc)) ∧ ((x3 - x3 / 18 * 18) = 17 → (kc + 200 ≤ 600086 ∧ nc + 1200 ≤ 7301442 ∧ wL_areAlike (x4 >>> (3 &&& 31)) I (fun r4 I5 => ((r4 = 0 → post 0) ∧ (¬ r4 = 0 → (K78 x3 x4 I5 S (kc + 200) (nc + 1200)))))))) := h
  refine V_iload_n dL_law_57 rfl rfl ?_
  refine V_bipush (v := 18) dL_law_58 (by decide) ?_
  refine V_irem dL_law_60 (by decide) ?_
  refine V_bipush (v := 17) dL_law_61 (by decide) ?_
  refine V_icmp_ne 78 dL_law_63 rfl (fun hc => ?_) (fun hc => ?_)
  · replace h := h.1 hc
    exact hK78 _ _ _ _ _ _ hA hk hn h
  · replace h := h.2 hc
    refine V_aload_n dL_law_66 rfl rfl ?_
    refine V_aload_n dL_law_67 rfl rfl ?_
    refine V_iload dL_law_68 rfl ?_
    refine V_iconst (v := 3) dL_law_70 (by decide) ?_
    refine V_ishr dL_law_71 ?_
    obtain ⟨hk9, hn9, h⟩ := h
    refine V_callSc (st := []) [.ref 0, .ref 51, .int (x4 >>> (3 &&& 31))] dL_law_72 ok_mL_areAlike rfl ml_RL_157 st_mL_areAlike (Nat.le_of_ble_eq_true rfl) (by decide) hk9 hn9 (s_mL_areAlike hS hW hM h) (fun r4 I5 J9 h => ?_)
    clear hk hn
    have hk := hk9
    have hn := hn9
    obtain ⟨rfl, h⟩ := h
    refine V_if_eq 94 dL_law_75 rfl (fun hc => ?_) (fun hc => ?_)
    · replace h := h.1 hc
      refine V_iconst (v := 0) dL_law_94 (by decide) ?_
      exact V_zret dL_law_95 rfl (by decide) hk hn ⟨_, rfl, h⟩
    · replace h := h.2 hc
      exact hK78 _ _ _ _ _ _ hA hk hn h
def wL_law_78 (X : QX) (K96 : Int32 → Int32 → QI → QS → Nat → Nat → Prop) (post : Int32 → Prop) (x3 : Int32) (x4 : Int32) (I : QI) (S : QS) (kc : Nat) (nc : Nat) : Prop := ((¬ (x3 - x3 / 45 * 45) = 44 → (K96 x3 x4 I S kc nc)) ∧ ((x3 - x3 / 45 * 45) = 44 → (kc + 400 ≤ 600086 ∧ nc + 3000 ≤ 7301442 ∧ wL_areNodesSo S.2.1 I (fun r12 I13 => ∀ S14 : QS, Sl X S14 → S14.2.1 = S.2.1 + 2 → ((¬ r12 = 0 → (K96 x3 x4 I13 S14 (kc + 400) (nc + 3000))) ∧ (r12 = 0 → post 0))))))
set_option maxRecDepth 100000 in
set_option maxHeartbeats 4000000 in
theorem swL_law_78 {X : QX} {J : QJ} {K96 : Int32 → Int32 → QI → QS → Nat → Nat → Prop} {post : Int32 → Prop}  (hK96 : ∀ (z3 : Int32) (z4 : Int32) (I : QI) (S : QS) (kc : Nat) (nc : Nat), Sl X S → kc ≤ 600086 → nc ≤ 7301442 → K96 z3 z4 I S kc nc → V X mL_law 1000 600086 7301442 (fun o _ _ _ => ∃ r : Int32, o = .inl (some (.int r)) ∧ post r) 96 [(0, .ref 1000000), (1, .ref 0), (2, .ref 51), (3, .int z3), (4, .int z4)] [] S I J kc nc) : ∀ (x3 : Int32) (x4 : Int32) (I : QI) (S : QS) (kc : Nat) (nc : Nat), Sl X S → kc ≤ 600086 → nc ≤ 7301442 → wL_law_78 X K96 post x3 x4 I S kc nc → V X mL_law 1000 600086 7301442 (fun o _ _ _ => ∃ r : Int32, o = .inl (some (.int r)) ∧ post r) 78 [(0, .ref 1000000), (1, .ref 0), (2, .ref 51), (3, .int x3), (4, .int x4)] [] S I J kc nc := by
  intro x3 x4 I S kc nc hA hk hn h
  have hS := hA.1
  have hW := hA.2.1
  have hM := hA.2.2.1
  have hScr := hA.2.2.2.2.2
  replace h : ((¬ (x3 - x3 / 45 * 45) = 44 → (K96 x3 x4 I S kc nc)) ∧ ((x3 - x3 / 45 * 45) = 44 → (kc + 400 ≤ 600086 ∧ nc + 3000 ≤ 7301442 ∧ wL_areNodesSo S.2.1 I (fun r12 I13 => ∀ S14 : QS, Sl X S14 → S14.2.1 = S.2.1 + 2 → ((¬ r12 = 0 → (K96 x3 x4 I13 S14 (kc + 400) (nc + 3000))) ∧ (r12 = 0 → post 0)))))) := h
  refine V_iload_n dL_law_78 rfl rfl ?_
  refine V_bipush (v := 45) dL_law_79 (by decide) ?_
  refine V_irem dL_law_81 (by decide) ?_
  refine V_bipush (v := 44) dL_law_82 (by decide) ?_
  refine V_icmp_ne 96 dL_law_84 rfl (fun hc => ?_) (fun hc => ?_)
  · replace h := h.1 hc
    exact hK96 _ _ _ _ _ _ hA hk hn h
  · replace h := h.2 hc
    refine V_aload_n dL_law_87 rfl rfl ?_
    obtain ⟨hk9, hn9, h⟩ := h
    refine V_callSS (st := []) [.ref 0] dL_law_88 ok_mL_areNodesSo rfl ml_RL_161 st_mL_areNodesSo (Nat.le_of_ble_eq_true rfl) (by decide) hk9 hn9 (q_vb102 hM rfl) (q_vb102 hM rfl) (s_mL_areNodesSo hA h) (fun r12 S14 I13 J9 hE9 hA9 hN9 hJ9 h => ?_)
    subst hJ9
    replace h := h S14 hA9 hN9
    clear hk hn hA hS hW hM hScr
    have hA := hA9
    have hS := hA.1
    have hW := hA.2.1
    have hM := hA.2.2.1
    have hScr := hA.2.2.2.2.2
    have hk := hk9
    have hn := hn9
    refine V_if_ne 96 dL_law_91 rfl (fun hc => ?_) (fun hc => ?_)
    · replace h := h.1 hc
      exact hK96 _ _ _ _ _ _ hA hk hn h
    · replace h := h.2 hc
      refine V_iconst (v := 0) dL_law_94 (by decide) ?_
      exact V_zret dL_law_95 rfl (by decide) hk hn ⟨_, rfl, h⟩
def wL_law_96 (X : QX) (K125 : Int32 → Int32 → Int32 → QI → QS → Nat → Nat → Prop) (post : Int32 → Prop) (x3 : Int32) (x4 : Int32) (I : QI) (S : QS) (kc : Nat) (nc : Nat) : Prop := (wL_low (x4 >>> (4 &&& 31)) 9 I (fun r21 => ((¬ (x3 - x3 / 5 * 5) = 4 → (K125 x3 r21 (-99999) I S kc nc)) ∧ ((x3 - x3 / 5 * 5) = 4 → (kc + 1 ≤ 600086 ∧ nc + 6 ≤ 7301442 ∧ wL_rewrite r21 I (fun r22 I23 => (K125 x3 r21 r22 I23 S (kc + 1) (nc + 6))))))))
set_option maxRecDepth 100000 in
set_option maxHeartbeats 4000000 in
theorem swL_law_96 {X : QX} {J : QJ} {K125 : Int32 → Int32 → Int32 → QI → QS → Nat → Nat → Prop} {post : Int32 → Prop}  (hK125 : ∀ (z3 : Int32) (z6 : Int32) (w0 : Int32) (I : QI) (S : QS) (kc : Nat) (nc : Nat), Sl X S → kc ≤ 600086 → nc ≤ 7301442 → K125 z3 z6 w0 I S kc nc → V X mL_law 1000 600086 7301442 (fun o _ _ _ => ∃ r : Int32, o = .inl (some (.int r)) ∧ post r) 125 [(0, .ref 1000000), (1, .ref 0), (2, .ref 51), (3, .int z3), (6, .int z6)] [.int w0] S I J kc nc) : ∀ (x3 : Int32) (x4 : Int32) (I : QI) (S : QS) (kc : Nat) (nc : Nat), Sl X S → kc ≤ 600086 → nc ≤ 7301442 → wL_law_96 X K125 post x3 x4 I S kc nc → V X mL_law 1000 600086 7301442 (fun o _ _ _ => ∃ r : Int32, o = .inl (some (.int r)) ∧ post r) 96 [(0, .ref 1000000), (1, .ref 0), (2, .ref 51), (3, .int x3), (4, .int x4)] [] S I J kc nc := by
  intro x3 x4 I S kc nc hA hk hn h
  have hS := hA.1
  have hW := hA.2.1
  have hM := hA.2.2.1
  have hScr := hA.2.2.2.2.2
  replace h : (wL_low (x4 >>> (4 &&& 31)) 9 I (fun r21 => ((¬ (x3 - x3 / 5 * 5) = 4 → (K125 x3 r21 (-99999) I S kc nc)) ∧ ((x3 - x3 / 5 * 5) = 4 → (kc + 1 ≤ 600086 ∧ nc + 6 ≤ 7301442 ∧ wL_rewrite r21 I (fun r22 I23 => (K125 x3 r21 r22 I23 S (kc + 1) (nc + 6)))))))) := h
  refine V_iload dL_law_96 rfl ?_
  refine V_iconst (v := 4) dL_law_98 (by decide) ?_
  refine V_ishr dL_law_99 ?_
  refine V_bipush (v := 9) dL_law_100 (by decide) ?_
  refine V_callSi (st := []) [.int (x4 >>> (4 &&& 31)), .int 9] dL_law_102 ok_mL_low rfl ml_RL_92 st_mL_low (Nat.le_of_ble_eq_true rfl) (by decide) hk hn (s_mL_low hS h) (fun r21 I9 J9 h => ?_)
  obtain ⟨rfl, rfl, h⟩ := h
  refine V_istore (lo2 := [(6, .int r21), (0, .ref 1000000), (1, .ref 0), (2, .ref 51), (3, .int x3), (4, .int x4)]) dL_law_105 (by decide) rfl ?_
  refine V_iload_n dL_law_107 rfl rfl ?_
  refine V_iconst (v := 5) dL_law_108 (by decide) ?_
  refine V_irem dL_law_109 (by decide) ?_
  refine V_iconst (v := 4) dL_law_110 (by decide) ?_
  refine V_icmp_ne 123 dL_law_111 rfl (fun hc => ?_) (fun hc => ?_)
  · replace h := h.1 hc
    refine V_ldc dL_law_123 co_RL_16 ?_
    refine V_sub (lo2 := [(0, .ref 1000000), (1, .ref 0), (2, .ref 51), (3, .int x3), (6, .int r21)]) [1, 2, 3, 4, 0] rfl ?_
    exact hK125 _ _ _ _ _ _ _ hA hk hn h
  · replace h := h.2 hc
    refine V_aload_n dL_law_114 rfl rfl ?_
    refine V_iload dL_law_115 rfl ?_
    obtain ⟨hk9, hn9, h⟩ := h
    refine V_callSXi (st := []) [.ref 0, .int r21] dL_law_117 ok_mL_rewrite (by decide) ml_RL_118 st_mL_rewrite (Nat.le_of_ble_eq_true rfl) (by decide) hk9 hn9 (s_mL_rewrite hS h) (fun r22 I23 J9 h => ?_)
    clear hk hn
    have hk := hk9
    have hn := hn9
    obtain ⟨rfl, h⟩ := h
    refine V_goto 125 dL_law_120 rfl ?_
    refine V_sub (lo2 := [(0, .ref 1000000), (1, .ref 0), (2, .ref 51), (3, .int x3), (6, .int r21)]) [1, 2, 3, 4, 0] rfl ?_
    exact hK125 _ _ _ _ _ _ _ hA hk hn h
def wL_law_125 (X : QX) (K169 : Int32 → QI → QS → Nat → Nat → Prop) (post : Int32 → Prop) (x3 : Int32) (x6 : Int32) (y0 : Int32) (I : QI) (S : QS) (kc : Nat) (nc : Nat) : Prop := ((y0 = (-99999) → (K169 x3 I S kc nc)) ∧ (¬ y0 = (-99999) → (kc + 1 ≤ 600086 ∧ nc + 6 ≤ 7301442 ∧ wL_rewrite x6 (q_sF I) (fun r31 I37 => ∀ I32 : QI, I32 = q_sF I37 → ((¬ r31 = y0 → post 0) ∧ (r31 = y0 → (kc + 1 + 1 ≤ 600086 ∧ nc + 6 + 6 ≤ 7301442 ∧ wL_same x6 y0 I32 (fun r33 I34 => ((r33 = 0 → post 0) ∧ (¬ r33 = 0 → (kc + 1 + 1 + 1 ≤ 600086 ∧ nc + 6 + 6 + 6 ≤ 7301442 ∧ wL_rewrite y0 I34 (fun r35 I36 => ((r35 = y0 → (K169 x3 I36 S (kc + 1 + 1 + 1) (nc + 6 + 6 + 6))) ∧ (¬ r35 = y0 → post 0))))))))))))))
set_option maxRecDepth 100000 in
set_option maxHeartbeats 4000000 in
theorem swL_law_125 {X : QX} {J : QJ} {K169 : Int32 → QI → QS → Nat → Nat → Prop} {post : Int32 → Prop}  (hK169 : ∀ (z3 : Int32) (I : QI) (S : QS) (kc : Nat) (nc : Nat), Sl X S → kc ≤ 600086 → nc ≤ 7301442 → K169 z3 I S kc nc → V X mL_law 1000 600086 7301442 (fun o _ _ _ => ∃ r : Int32, o = .inl (some (.int r)) ∧ post r) 169 [(0, .ref 1000000), (1, .ref 0), (2, .ref 51), (3, .int z3)] [] S I J kc nc) : ∀ (x3 : Int32) (x6 : Int32) (y0 : Int32) (I : QI) (S : QS) (kc : Nat) (nc : Nat), Sl X S → kc ≤ 600086 → nc ≤ 7301442 → wL_law_125 X K169 post x3 x6 y0 I S kc nc → V X mL_law 1000 600086 7301442 (fun o _ _ _ => ∃ r : Int32, o = .inl (some (.int r)) ∧ post r) 125 [(0, .ref 1000000), (1, .ref 0), (2, .ref 51), (3, .int x3), (6, .int x6)] [.int y0] S I J kc nc := by
  intro x3 x6 y0 I S kc nc hA hk hn h
  have hS := hA.1
  have hW := hA.2.1
  have hM := hA.2.2.1
  have hScr := hA.2.2.2.2.2
  replace h : ((y0 = (-99999) → (K169 x3 I S kc nc)) ∧ (¬ y0 = (-99999) → (kc + 1 ≤ 600086 ∧ nc + 6 ≤ 7301442 ∧ wL_rewrite x6 (q_sF I) (fun r31 I37 => ∀ I32 : QI, I32 = q_sF I37 → ((¬ r31 = y0 → post 0) ∧ (r31 = y0 → (kc + 1 + 1 ≤ 600086 ∧ nc + 6 + 6 ≤ 7301442 ∧ wL_same x6 y0 I32 (fun r33 I34 => ((r33 = 0 → post 0) ∧ (¬ r33 = 0 → (kc + 1 + 1 + 1 ≤ 600086 ∧ nc + 6 + 6 + 6 ≤ 7301442 ∧ wL_rewrite y0 I34 (fun r35 I36 => ((r35 = y0 → (K169 x3 I36 S (kc + 1 + 1 + 1) (nc + 6 + 6 + 6))) ∧ (¬ r35 = y0 → post 0)))))))))))))) := h
  refine V_istore (lo2 := [(7, .int y0), (0, .ref 1000000), (1, .ref 0), (2, .ref 51), (3, .int x3), (6, .int x6)]) dL_law_125 (by decide) rfl ?_
  refine V_iload dL_law_127 rfl ?_
  refine V_ldc dL_law_129 co_RL_16 ?_
  refine V_icmp_eq 169 dL_law_131 rfl (fun hc => ?_) (fun hc => ?_)
  · replace h := h.1 hc
    refine V_sub (lo2 := [(0, .ref 1000000), (1, .ref 0), (2, .ref 51), (3, .int x3)]) [1, 2, 3, 4] rfl ?_
    exact hK169 _ _ _ _ _ hA hk hn h
  · replace h := h.2 hc
    refine V_aload_n dL_law_134 rfl rfl ?_
    refine V_iload dL_law_135 rfl ?_
    obtain ⟨hk9, hn9, h⟩ := h
    refine V_callSXi (st := []) [.ref 51, .int x6] dL_law_137 ok_mL_rewrite (by decide) ml_RL_118 st_mL_rewrite (Nat.le_of_ble_eq_true rfl) (by decide) hk9 hn9 (CX.sw (av := [.ref 0, .int x6]) hM (s_mL_rewrite hW h)) (fun r31 I32 J9 h => ?_)
    clear hk hn
    have hk := hk9
    have hn := hn9
    obtain ⟨e9, h⟩ := h
    obtain rfl := q_sF_inj e9
    replace h := h I32 (q_sF_sF I32).symm
    refine V_iload dL_law_140 rfl ?_
    refine V_icmp_ne 167 dL_law_142 rfl (fun hc => ?_) (fun hc => ?_)
    · replace h := h.1 hc
      refine V_iconst (v := 0) dL_law_167 (by decide) ?_
      exact V_zret dL_law_168 rfl (by decide) hk hn ⟨_, rfl, h⟩
    · replace h := h.2 hc
      refine V_aload_n dL_law_145 rfl rfl ?_
      refine V_iload dL_law_146 rfl ?_
      refine V_iload dL_law_148 rfl ?_
      obtain ⟨hk9, hn9, h⟩ := h
      refine V_callSXi (st := []) [.ref 0, .int x6, .int y0] dL_law_150 ok_mL_same (by decide) ml_RL_125 st_mL_same (Nat.le_of_ble_eq_true rfl) (by decide) hk9 hn9 (s_mL_same hS h) (fun r33 I34 J9 h => ?_)
      clear hk hn
      have hk := hk9
      have hn := hn9
      obtain ⟨rfl, h⟩ := h
      refine V_if_eq 167 dL_law_153 rfl (fun hc => ?_) (fun hc => ?_)
      · replace h := h.1 hc
        refine V_iconst (v := 0) dL_law_167 (by decide) ?_
        exact V_zret dL_law_168 rfl (by decide) hk hn ⟨_, rfl, h⟩
      · replace h := h.2 hc
        refine V_aload_n dL_law_156 rfl rfl ?_
        refine V_iload dL_law_157 rfl ?_
        obtain ⟨hk9, hn9, h⟩ := h
        refine V_callSXi (st := []) [.ref 0, .int y0] dL_law_159 ok_mL_rewrite (by decide) ml_RL_118 st_mL_rewrite (Nat.le_of_ble_eq_true rfl) (by decide) hk9 hn9 (s_mL_rewrite hS h) (fun r35 I36 J9 h => ?_)
        clear hk hn
        have hk := hk9
        have hn := hn9
        obtain ⟨rfl, h⟩ := h
        refine V_iload dL_law_162 rfl ?_
        refine V_icmp_eq 169 dL_law_164 rfl (fun hc => ?_) (fun hc => ?_)
        · replace h := h.1 hc
          refine V_sub (lo2 := [(0, .ref 1000000), (1, .ref 0), (2, .ref 51), (3, .int x3)]) [1, 2, 3, 4] rfl ?_
          exact hK169 _ _ _ _ _ hA hk hn h
        · replace h := h.2 hc
          refine V_iconst (v := 0) dL_law_167 (by decide) ?_
          exact V_zret dL_law_168 rfl (by decide) hk hn ⟨_, rfl, h⟩
def wL_law_169 (X : QX) (K18 : Int32 → QI → QS → Nat → Nat → Prop) (post : Int32 → Prop) (x3 : Int32) (I : QI) (S : QS) (kc : Nat) (nc : Nat) : Prop := (∀ v43 : Int32, v43 = (x3 + 1) → (K18 v43 I S kc nc))
set_option maxRecDepth 100000 in
set_option maxHeartbeats 4000000 in
theorem swL_law_169 {X : QX} {J : QJ} {K18 : Int32 → QI → QS → Nat → Nat → Prop} {post : Int32 → Prop}  (hK18 : ∀ (z3 : Int32) (I : QI) (S : QS) (kc : Nat) (nc : Nat), Sl X S → kc ≤ 600086 → nc ≤ 7301442 → K18 z3 I S kc nc → V X mL_law 1000 600086 7301442 (fun o _ _ _ => ∃ r : Int32, o = .inl (some (.int r)) ∧ post r) 18 [(0, .ref 1000000), (1, .ref 0), (2, .ref 51), (3, .int z3)] [] S I J kc nc) : ∀ (x3 : Int32) (I : QI) (S : QS) (kc : Nat) (nc : Nat), Sl X S → kc ≤ 600086 → nc ≤ 7301442 → wL_law_169 X K18 post x3 I S kc nc → V X mL_law 1000 600086 7301442 (fun o _ _ _ => ∃ r : Int32, o = .inl (some (.int r)) ∧ post r) 169 [(0, .ref 1000000), (1, .ref 0), (2, .ref 51), (3, .int x3)] [] S I J kc nc := by
  intro x3 I S kc nc hA hk hn h
  have hS := hA.1
  have hW := hA.2.1
  have hM := hA.2.2.1
  have hScr := hA.2.2.2.2.2
  replace h : (∀ v43 : Int32, v43 = (x3 + 1) → (K18 v43 I S kc nc)) := h
  obtain ⟨v43, e_v43⟩ : ∃ z : Int32, z = (x3 + 1) := ⟨_, rfl⟩
  replace h := h v43 e_v43
  refine V_iinc (lo2 := [(3, .int v43), (0, .ref 1000000), (1, .ref 0), (2, .ref 51)]) 3 dL_law_169 rfl (v := v43) (by rw [e_v43]; first | done | rfl) (by decide) rfl ?_
  refine V_goto 18 dL_law_172 rfl ?_
  refine V_sub (lo2 := [(0, .ref 1000000), (1, .ref 0), (2, .ref 51), (3, .int v43)]) [1, 2, 3, 0] rfl ?_
  exact hK18 _ _ _ _ _ hA hk hn h
def wL_law_18 (X : QX) (post : Int32 → Prop) : Nat → Int32 → QI → QS → Nat → Nat → Prop
  | 0, _, _, _, _, _ => False
  | n + 1, x3, I, S, kc, nc => ((90 ≤ x3 → post 1) ∧ (¬ 90 ≤ x3 → (wL_cell X x3 I (fun r1 => (kc + 1 ≤ 600086 ∧ nc + 6 ≤ 7301442 ∧ wL_act r1 I (fun r2 I3 => ((r2 = (-99999) → (wL_law_57 X (fun u6 u7 I8 z9 z10 z11 => (wL_law_78 X (fun u15 u16 I17 z18 z19 z20 => (wL_law_96 X (fun u24 u25 u26 I27 z28 z29 z30 => (wL_law_125 X (fun u38 I39 z40 z41 z42 => (wL_law_169 X (fun u44 I45 z46 z47 z48 => (wL_law_18 X post n u44 I45 z46 z47 z48)) post u38 I39 z40 z41 z42)) post u24 u25 u26 I27 z28 z29 z30)) post u15 u16 I17 z18 z19 z20)) post u6 u7 I8 z9 z10 z11)) post x3 r1 I3 S (kc + 1) (nc + 6))) ∧ (¬ r2 = (-99999) → (kc + 1 + 1 ≤ 600086 ∧ nc + 6 + 6 ≤ 7301442 ∧ wL_act r1 (q_sF I3) (fun r49 I80 => ∀ I50 : QI, I50 = q_sF I80 → ((¬ r49 = r2 → post 0) ∧ (r49 = r2 → (wL_law_57 X (fun u51 u52 I53 z54 z55 z56 => (wL_law_78 X (fun u57 u58 I59 z60 z61 z62 => (wL_law_96 X (fun u63 u64 u65 I66 z67 z68 z69 => (wL_law_125 X (fun u70 I71 z72 z73 z74 => (wL_law_169 X (fun u75 I76 z77 z78 z79 => (wL_law_18 X post n u75 I76 z77 z78 z79)) post u70 I71 z72 z73 z74)) post u63 u64 u65 I66 z67 z68 z69)) post u57 u58 I59 z60 z61 z62)) post u51 u52 I53 z54 z55 z56)) post x3 r1 I50 S (kc + 1 + 1) (nc + 6 + 6))))))))))))))
set_option maxRecDepth 100000 in
set_option maxHeartbeats 4000000 in
theorem swL_law_18 {X : QX} {J : QJ} {post : Int32 → Prop}  : ∀ (f : Nat) (x3 : Int32) (I : QI) (S : QS) (kc : Nat) (nc : Nat), Sl X S → kc ≤ 600086 → nc ≤ 7301442 → wL_law_18 X post f x3 I S kc nc → V X mL_law 1000 600086 7301442 (fun o _ _ _ => ∃ r : Int32, o = .inl (some (.int r)) ∧ post r) 18 [(0, .ref 1000000), (1, .ref 0), (2, .ref 51), (3, .int x3)] [] S I J kc nc := by
  intro f
  induction f with
  | zero => intro x3 I S kc nc hA hk hn h; exact h.elim
  | succ n ih =>
    intro x3 I S kc nc hA hk hn h
    have hS := hA.1
    have hW := hA.2.1
    have hM := hA.2.2.1
    have hScr := hA.2.2.2.2.2
    replace h : ((90 ≤ x3 → post 1) ∧ (¬ 90 ≤ x3 → (wL_cell X x3 I (fun r1 => (kc + 1 ≤ 600086 ∧ nc + 6 ≤ 7301442 ∧ wL_act r1 I (fun r2 I3 => ((r2 = (-99999) → (wL_law_57 X (fun u6 u7 I8 z9 z10 z11 => (wL_law_78 X (fun u15 u16 I17 z18 z19 z20 => (wL_law_96 X (fun u24 u25 u26 I27 z28 z29 z30 => (wL_law_125 X (fun u38 I39 z40 z41 z42 => (wL_law_169 X (fun u44 I45 z46 z47 z48 => (wL_law_18 X post n u44 I45 z46 z47 z48)) post u38 I39 z40 z41 z42)) post u24 u25 u26 I27 z28 z29 z30)) post u15 u16 I17 z18 z19 z20)) post u6 u7 I8 z9 z10 z11)) post x3 r1 I3 S (kc + 1) (nc + 6))) ∧ (¬ r2 = (-99999) → (kc + 1 + 1 ≤ 600086 ∧ nc + 6 + 6 ≤ 7301442 ∧ wL_act r1 (q_sF I3) (fun r49 I80 => ∀ I50 : QI, I50 = q_sF I80 → ((¬ r49 = r2 → post 0) ∧ (r49 = r2 → (wL_law_57 X (fun u51 u52 I53 z54 z55 z56 => (wL_law_78 X (fun u57 u58 I59 z60 z61 z62 => (wL_law_96 X (fun u63 u64 u65 I66 z67 z68 z69 => (wL_law_125 X (fun u70 I71 z72 z73 z74 => (wL_law_169 X (fun u75 I76 z77 z78 z79 => (wL_law_18 X post n u75 I76 z77 z78 z79)) post u70 I71 z72 z73 z74)) post u63 u64 u65 I66 z67 z68 z69)) post u57 u58 I59 z60 z61 z62)) post u51 u52 I53 z54 z55 z56)) post x3 r1 I50 S (kc + 1 + 1) (nc + 6 + 6)))))))))))))) := h
    refine V_iload_n dL_law_18 rfl rfl ?_
    refine V_bipush (v := 90) dL_law_19 (by decide) ?_
    refine V_icmp_ge 175 dL_law_21 rfl (fun hc => ?_) (fun hc => ?_)
    · replace h := h.1 hc
      refine V_iconst (v := 1) dL_law_175 (by decide) ?_
      exact V_zret dL_law_176 rfl (by decide) hk hn ⟨_, rfl, h⟩
    · replace h := h.2 hc
      refine V_aload_n dL_law_24 rfl rfl ?_
      refine V_iload_n dL_law_25 rfl rfl ?_
      refine V_callSi (st := []) [.ref 1000000, .int x3] dL_law_26 ok_mL_cell rfl ml_RL_151 st_mL_cell (Nat.le_of_ble_eq_true rfl) (by decide) hk hn (s_mL_cell hScr h) (fun r1 I9 J9 h => ?_)
      obtain ⟨rfl, rfl, h⟩ := h
      refine V_istore (lo2 := [(4, .int r1), (0, .ref 1000000), (1, .ref 0), (2, .ref 51), (3, .int x3)]) dL_law_29 (by decide) rfl ?_
      refine V_aload_n dL_law_31 rfl rfl ?_
      refine V_iload dL_law_32 rfl ?_
      obtain ⟨hk9, hn9, h⟩ := h
      refine V_callSc (st := []) [.ref 0, .int r1] dL_law_34 ok_mL_act rfl ml_RL_154 st_mL_act (Nat.le_of_ble_eq_true rfl) (by decide) hk9 hn9 (s_mL_act hS h) (fun r2 I3 J9 h => ?_)
      clear hk hn
      have hk := hk9
      have hn := hn9
      obtain ⟨rfl, h⟩ := h
      refine V_istore (lo2 := [(5, .int r2), (4, .int r1), (0, .ref 1000000), (1, .ref 0), (2, .ref 51), (3, .int x3)]) dL_law_37 (by decide) rfl ?_
      refine V_iload dL_law_39 rfl ?_
      refine V_ldc dL_law_41 co_RL_16 ?_
      refine V_icmp_eq 57 dL_law_43 rfl (fun hc => ?_) (fun hc => ?_)
      · replace h := h.1 hc
        refine V_sub (lo2 := [(0, .ref 1000000), (1, .ref 0), (2, .ref 51), (3, .int x3), (4, .int r1)]) [2, 3, 4, 5, 1] rfl ?_
        refine swL_law_57 ?_ _ _ _ _ _ _ hA hk hn h
        · intro u6 u7 I8 z9 z10 z11 hA hk hn h
          have hS := hA.1
          have hW := hA.2.1
          have hM := hA.2.2.1
          have hScr := hA.2.2.2.2.2
          refine swL_law_78 ?_ _ _ _ _ _ _ hA hk hn h
          · intro u15 u16 I17 z18 z19 z20 hA hk hn h
            have hS := hA.1
            have hW := hA.2.1
            have hM := hA.2.2.1
            have hScr := hA.2.2.2.2.2
            refine swL_law_96 ?_ _ _ _ _ _ _ hA hk hn h
            · intro u24 u25 u26 I27 z28 z29 z30 hA hk hn h
              have hS := hA.1
              have hW := hA.2.1
              have hM := hA.2.2.1
              have hScr := hA.2.2.2.2.2
              refine swL_law_125 ?_ _ _ _ _ _ _ _ hA hk hn h
              · intro u38 I39 z40 z41 z42 hA hk hn h
                have hS := hA.1
                have hW := hA.2.1
                have hM := hA.2.2.1
                have hScr := hA.2.2.2.2.2
                refine swL_law_169 ?_ _ _ _ _ _ hA hk hn h
                · intro u44 I45 z46 z47 z48 hA hk hn h
                  have hS := hA.1
                  have hW := hA.2.1
                  have hM := hA.2.2.1
                  have hScr := hA.2.2.2.2.2
                  exact ih _ _ _ _ _ hA hk hn h
      · replace h := h.2 hc
        refine V_aload_n dL_law_46 rfl rfl ?_
        refine V_iload dL_law_47 rfl ?_
        obtain ⟨hk9, hn9, h⟩ := h
        refine V_callSc (st := []) [.ref 51, .int r1] dL_law_49 ok_mL_act rfl ml_RL_154 st_mL_act (Nat.le_of_ble_eq_true rfl) (by decide) hk9 hn9 (CX.sw (av := [.ref 0, .int r1]) hM (s_mL_act hW h)) (fun r49 I50 J9 h => ?_)
        clear hk hn
        have hk := hk9
        have hn := hn9
        obtain ⟨e9, h⟩ := h
        obtain rfl := q_sF_inj e9
        replace h := h I50 (q_sF_sF I50).symm
        refine V_iload dL_law_52 rfl ?_
        refine V_icmp_ne 94 dL_law_54 rfl (fun hc => ?_) (fun hc => ?_)
        · replace h := h.1 hc
          refine V_iconst (v := 0) dL_law_94 (by decide) ?_
          exact V_zret dL_law_95 rfl (by decide) hk hn ⟨_, rfl, h⟩
        · replace h := h.2 hc
          refine V_sub (lo2 := [(0, .ref 1000000), (1, .ref 0), (2, .ref 51), (3, .int x3), (4, .int r1)]) [2, 3, 4, 5, 1] rfl ?_
          refine swL_law_57 ?_ _ _ _ _ _ _ hA hk hn h
          · intro u51 u52 I53 z54 z55 z56 hA hk hn h
            have hS := hA.1
            have hW := hA.2.1
            have hM := hA.2.2.1
            have hScr := hA.2.2.2.2.2
            refine swL_law_78 ?_ _ _ _ _ _ _ hA hk hn h
            · intro u57 u58 I59 z60 z61 z62 hA hk hn h
              have hS := hA.1
              have hW := hA.2.1
              have hM := hA.2.2.1
              have hScr := hA.2.2.2.2.2
              refine swL_law_96 ?_ _ _ _ _ _ _ hA hk hn h
              · intro u63 u64 u65 I66 z67 z68 z69 hA hk hn h
                have hS := hA.1
                have hW := hA.2.1
                have hM := hA.2.2.1
                have hScr := hA.2.2.2.2.2
                refine swL_law_125 ?_ _ _ _ _ _ _ _ hA hk hn h
                · intro u70 I71 z72 z73 z74 hA hk hn h
                  have hS := hA.1
                  have hW := hA.2.1
                  have hM := hA.2.2.1
                  have hScr := hA.2.2.2.2.2
                  refine swL_law_169 ?_ _ _ _ _ _ hA hk hn h
                  · intro u75 I76 z77 z78 z79 hA hk hn h
                    have hS := hA.1
                    have hW := hA.2.1
                    have hM := hA.2.2.1
                    have hScr := hA.2.2.2.2.2
                    exact ih _ _ _ _ _ hA hk hn h
def wL_start (X : QX) (post : Int32 → Prop) (S : QS) (I : QI) (J : QJ) : Prop := (∀ a2 : Nat, ∀ S1 : QS, S1 = q_nS S a2 7 0 → (∀ I3 : QI, I3 = q_rw I 0 (fun _ => 0) → (w_X7_init_at0 S1 I3 J (fun S4 I5 J6 => (∀ a8 : Nat, ∀ S7 : QS, S7 = q_nS S4 a8 7 0 → (∀ I9 : QI, I9 = q_rw I5 51 (fun _ => 0) → (w_X7_init_at51 S7 I9 J6 (fun S10 I11 J12 => (Sl X S10 ∧ ∃ f : Nat, wL_law_18 X post f 0 I11 S10 102 74228)))))))))
set_option maxRecDepth 100000 in
set_option maxHeartbeats 4000000 in
theorem swL_start {X : QX} {post : Int32 → Prop} {S : QS} {I : QI} {J : QJ} (hN : S.2.1 = 0) (hc : q_cl S) (hScr : S.1 1000000 = X.2.1.1) (h : wL_start X post S I J) : V X mL_law 1000 600086 7301442 (fun o _ _ _ => ∃ r : Int32, o = .inl (some (.int r)) ∧ post r) 0 [(0, .ref 1000000)] [] S I J 0 0 := by
  have hN0 := hN
  have hE : Ex S S := Ex.rf
  have hR : q_Rk 1000001 S S := q_Rk.rf
  replace h : (∀ a2 : Nat, ∀ S1 : QS, S1 = q_nS S a2 7 0 → (∀ I3 : QI, I3 = q_rw I 0 (fun _ => 0) → (w_X7_init_at0 S1 I3 J (fun S4 I5 J6 => (∀ a8 : Nat, ∀ S7 : QS, S7 = q_nS S4 a8 7 0 → (∀ I9 : QI, I9 = q_rw I5 51 (fun _ => 0) → (w_X7_init_at51 S7 I9 J6 (fun S10 I11 J12 => (Sl X S10 ∧ ∃ f : Nat, wL_law_18 X post f 0 I11 S10 102 74228))))))))) := h
  refine V_new (ci := 7) dL_law_0 (by decide) cl_RL_9 is_RX7 ii_RX7 (by rw [hN]; decide) hc (q_vbn hN rfl) (q_vbn hN rfl) (by decide) (by decide) (fun a2 => ?_)
  rw [hN]
  refine V_memS (fun S1 e_S1 => ?_)
  refine V_memI (fun I3 e_I3 => ?_)
  replace h := h a2 S1 e_S1 I3 e_I3
  have hM9 := hN
  have hN9 : S1.2.1 = 1 := by rw [e_S1]; show _ + 1 = 1; rw [hN]
  have hc9 : q_cl S1 := by rw [e_S1]; exact q_cl_new hc _ _ _
  have hE9 : Ex S S1 := by rw [e_S1]; exact hE.tr (Ex.new _ (by rw [hN]; decide) _ _ _)
  have hR9 : q_Rk 1000001 S S1 := by rw [e_S1]; exact hR.new hE.1 _ _ _
  clear hc hE hR 
  have hN := hN9
  have hc := hc9
  have hE := hE9
  have hR := hR9
  have hK0 : S1.2.2.1 0 = 7 := by rw [e_S1]; exact if_pos hM9.symm
  clear hM9
  refine V_dup dL_law_3 rfl ?_
  refine V_callIk (st := [.ref 0]) [] dL_law_4 ok_mX7_init rfl ml_RL_150 in_mX7_init rfl rfl (Nat.le_of_ble_eq_true rfl) (by decide) (by decide) (by decide) (q_vbn hN rfl) (q_vbn hN rfl) (s_X7_init_at0 hN hc hK0 h) (fun S4 I5 J6 hE8 hc8 hN8 hR8 h => ?_)
  have hN9 : S4.2.1 = 51 := by rw [hN8, hN]
  have hE9 := hE.tr hE8
  have hR9 := hR.call hE hR8 (by rw [hN0]; decide)
  have hK09 : S4.2.2.1 0 = 7 := (hE8.2.1 0 (by rw [hN]; decide)).2.1.trans hK0
  clear hc hE hR hK0  
  have hN := hN9
  have hc := hc8
  have hE := hE9
  have hR := hR9
  have hK0 := hK09
  refine V_astore_n (lo2 := [(1, .ref 0), (0, .ref 1000000)]) dL_law_7 rfl (by decide) rfl ?_
  refine V_new (ci := 7) dL_law_8 (by decide) cl_RL_9 is_RX7 ii_RX7 (by rw [hN]; decide) hc (q_vbn hN rfl) (q_vbn hN rfl) (by decide) (by decide) (fun a8 => ?_)
  rw [hN]
  refine V_memS (fun S7 e_S7 => ?_)
  refine V_memI (fun I9 e_I9 => ?_)
  replace h := h a8 S7 e_S7 I9 e_I9
  have hM9 := hN
  have hN9 : S7.2.1 = 52 := by rw [e_S7]; show _ + 1 = 52; rw [hN]
  have hc9 : q_cl S7 := by rw [e_S7]; exact q_cl_new hc _ _ _
  have hE9 : Ex S S7 := by rw [e_S7]; exact hE.tr (Ex.new _ (by rw [hN]; decide) _ _ _)
  have hR9 : q_Rk 1000001 S S7 := by rw [e_S7]; exact hR.new hE.1 _ _ _
  have hK09 : S7.2.2.1 0 = 7 := by rw [e_S7]; exact (if_neg (by rw [hN]; decide)).trans hK0
  clear hc hE hR hK0  
  have hN := hN9
  have hc := hc9
  have hE := hE9
  have hR := hR9
  have hK0 := hK09
  have hK51 : S7.2.2.1 51 = 7 := by rw [e_S7]; exact if_pos hM9.symm
  clear hM9
  refine V_dup dL_law_11 rfl ?_
  refine V_callIk (st := [.ref 51]) [] dL_law_12 ok_mX7_init rfl ml_RL_150 in_mX7_init rfl rfl (Nat.le_of_ble_eq_true rfl) (by decide) (by decide) (by decide) (q_vbn hN rfl) (q_vbn hN rfl) (s_X7_init_at51 hN hc hK51 h) (fun S10 I11 J12 hE8 hc8 hN8 hR8 h => ?_)
  have hN9 : S10.2.1 = 102 := by rw [hN8, hN]
  have hE9 := hE.tr hE8
  have hR9 := hR.call hE hR8 (by rw [hN0]; decide)
  have hK09 : S10.2.2.1 0 = 7 := (hE8.2.1 0 (by rw [hN]; decide)).2.1.trans hK0
  have hK519 : S10.2.2.1 51 = 7 := (hE8.2.1 51 (by rw [hN]; decide)).2.1.trans hK51
  clear hc hE hR hK0 hK51  
  have hN := hN9
  have hc := hc8
  have hE := hE9
  have hR := hR9
  have hK0 := hK09
  have hK51 := hK519
  refine V_astore_n (lo2 := [(2, .ref 51), (1, .ref 0), (0, .ref 1000000)]) dL_law_15 rfl (by decide) rfl ?_
  refine V_iconst (v := 0) dL_law_16 (by decide) ?_
  refine V_istore_n (lo2 := [(3, .int 0), (2, .ref 51), (1, .ref 0), (0, .ref 1000000)]) dL_law_17 rfl (by decide) rfl ?_
  refine V_sub (lo2 := [(0, .ref 1000000), (1, .ref 0), (2, .ref 51), (3, .int 0)]) [3, 2, 1, 0] rfl ?_
  obtain ⟨hA, f9, h⟩ := h
  exact swL_law_18 f9 _ _ _ _ _ hA (by decide) (by decide) h
