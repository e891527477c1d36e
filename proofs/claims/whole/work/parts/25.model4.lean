def wX8_same_63 (a1 : Int32) (a2 : Int32) (K97 : Int32 → QI → QJ → Prop) (post : Int32 → QI → QJ → Prop) : Nat → Int32 → Int32 → QI → QJ → Prop
  | 0, _, _, _, _ => False
  | n + 1, x4, x5, I, J => ((1200 ≤ x5 → (K97 x4 I J)) ∧ (¬ 1200 ≤ x5 → (vp_in ((1200 * a1) + x5) 28800 ∧ (vp_in x5 1200 ∧ (∀ I5 : QI, I5 = q_u2 I 69 (x5).toNatClampNeg (I 66 (((1200 * a1) + x5)).toNatClampNeg) → (∀ v6 : Int32, v6 = (x5 + 1) → (wX8_same_63 a1 a2 K97 post n x4 v6 I5 J)))))))
set_option maxRecDepth 100000 in
set_option maxHeartbeats 4000000 in
theorem swX8_same_63 {X : QX} {S : QS} {a1 : Int32} {a2 : Int32} {K97 : Int32 → QI → QJ → Prop} {post : Int32 → QI → QJ → Prop} (hS : Sh S) (hK97 : ∀ (z4 : Int32) (I : QI) (J : QJ), K97 z4 I J → V X mX8_same 6 0 0 (q_Pi S (fun r I2 J2 => post r I2 J2)) 97 [(0, .ref 51), (1, .int a1), (2, .int a2), (4, .int z4)] [] S I J 0 0) : ∀ (f : Nat) (x4 : Int32) (x5 : Int32) (I : QI) (J : QJ), wX8_same_63 a1 a2 K97 post f x4 x5 I J → V X mX8_same 6 0 0 (q_Pi S (fun r I2 J2 => post r I2 J2)) 63 [(0, .ref 51), (1, .int a1), (2, .int a2), (4, .int x4), (5, .int x5)] [] S I J 0 0 := by
  intro f
  induction f with
  | zero => intro x4 x5 I J h; exact h.elim
  | succ n ih =>
    intro x4 x5 I J h
    replace h : ((1200 ≤ x5 → (K97 x4 I J)) ∧ (¬ 1200 ≤ x5 → (vp_in ((1200 * a1) + x5) 28800 ∧ (vp_in x5 1200 ∧ (∀ I5 : QI, I5 = q_u2 I 69 (x5).toNatClampNeg (I 66 (((1200 * a1) + x5)).toNatClampNeg) → (∀ v6 : Int32, v6 = (x5 + 1) → (wX8_same_63 a1 a2 K97 post n x4 v6 I5 J))))))) := h
    refine V_iload dX8_same_63 rfl ?_
    refine V_sipush (v := 1200) dX8_same_65 (by decide) ?_
    refine V_icmp_ge 97 dX8_same_68 rfl (fun hc => ?_) (fun hc => ?_)
    · replace h := h.1 hc
      refine V_sub (lo2 := [(0, .ref 51), (1, .int a1), (2, .int a2), (4, .int x4)]) [0, 1, 2, 3] rfl ?_
      exact hK97 _ _ _ h
    · replace h := h.2 hc
      refine V_aload_n dX8_same_71 rfl rfl ?_
      refine V_getr dX8_same_72 fl_RX8_68 (hS.n 51 rfl) (hS.k 51 8 rfl) rfl (hS.r 51 23 69 rfl) ?_
      refine V_iload dX8_same_75 rfl ?_
      refine V_aload_n dX8_same_77 rfl rfl ?_
      refine V_getr dX8_same_78 fl_RX8_58 (hS.n 51 rfl) (hS.k 51 8 rfl) rfl (hS.r 51 20 66 rfl) ?_
      refine V_sipush (v := 1200) dX8_same_81 (by decide) ?_
      refine V_iload_n dX8_same_84 rfl rfl ?_
      refine V_imul dX8_same_85 ?_
      refine V_iload dX8_same_86 rfl ?_
      refine V_iadd dX8_same_88 ?_
      obtain ⟨hb, h⟩ := h
      refine V_iald dX8_same_89 (hS.n 66 rfl) (hS.k 66 9 rfl) (by rw [(hS.z 66 28800 rfl)]; exact hb) ?_
      obtain ⟨hb, h⟩ := h
      refine V_iast dX8_same_90 (hS.n 69 rfl) (hS.k 69 9 rfl) (by rw [(hS.z 69 1200 rfl)]; exact hb) ?_
      refine V_memI (fun I5 e_I5 => ?_)
      replace h := h I5 e_I5
      obtain ⟨v6, e_v6⟩ : ∃ z : Int32, z = (x5 + 1) := ⟨_, rfl⟩
      replace h := h v6 e_v6
      refine V_iinc (lo2 := [(5, .int v6), (0, .ref 51), (1, .int a1), (2, .int a2), (4, .int x4)]) 4 dX8_same_91 rfl (v := v6) (by rw [e_v6]; first | done | rfl) (by decide) rfl ?_
      refine V_goto 63 dX8_same_94 rfl ?_
      refine V_sub (lo2 := [(0, .ref 51), (1, .int a1), (2, .int a2), (4, .int x4), (5, .int v6)]) [1, 2, 3, 4, 0] rfl ?_
      exact ih _ _ _ _ h
def wX8_same_166 (a1 : Int32) (a2 : Int32) (K201 : Int32 → Int32 → Int32 → QI → QJ → Prop) (post : Int32 → QI → QJ → Prop) : Nat → Int32 → Int32 → Int32 → QI → QJ → Prop
  | 0, _, _, _, _, _ => False
  | n + 1, x4, x5, x6, I, J => ((x4 ≤ x6 → (K201 x4 x5 x6 I J)) ∧ (¬ x4 ≤ x6 → (vp_in x6 400 ∧ ((¬ (I 68 (x6).toNatClampNeg) = 0 → (∀ v16 : Int32, v16 = (x6 + 1) → (wX8_same_166 a1 a2 K201 post n x4 x5 v16 I J))) ∧ ((I 68 (x6).toNatClampNeg) = 0 → (wX8_isKept x5 a2 x6 I (fun r17 => ((¬ r17 = 0 → (K201 x4 x5 x6 I J)) ∧ (r17 = 0 → (∀ v18 : Int32, v18 = (x6 + 1) → (wX8_same_166 a1 a2 K201 post n x4 x5 v18 I J)))))))))))
set_option maxRecDepth 100000 in
set_option maxHeartbeats 4000000 in
theorem swX8_same_166 {X : QX} {S : QS} {a1 : Int32} {a2 : Int32} {K201 : Int32 → Int32 → Int32 → QI → QJ → Prop} {post : Int32 → QI → QJ → Prop} (hS : Sh S) (hK201 : ∀ (z4 : Int32) (z5 : Int32) (z6 : Int32) (I : QI) (J : QJ), K201 z4 z5 z6 I J → V X mX8_same 6 0 0 (q_Pi S (fun r I2 J2 => post r I2 J2)) 201 [(0, .ref 51), (2, .int a2), (4, .int z4), (5, .int z5), (6, .int z6)] [] S I J 0 0) : ∀ (f : Nat) (x4 : Int32) (x5 : Int32) (x6 : Int32) (I : QI) (J : QJ), wX8_same_166 a1 a2 K201 post f x4 x5 x6 I J → V X mX8_same 6 0 0 (q_Pi S (fun r I2 J2 => post r I2 J2)) 166 [(0, .ref 51), (2, .int a2), (4, .int x4), (5, .int x5), (6, .int x6)] [] S I J 0 0 := by
  intro f
  induction f with
  | zero => intro x4 x5 x6 I J h; exact h.elim
  | succ n ih =>
    intro x4 x5 x6 I J h
    replace h : ((x4 ≤ x6 → (K201 x4 x5 x6 I J)) ∧ (¬ x4 ≤ x6 → (vp_in x6 400 ∧ ((¬ (I 68 (x6).toNatClampNeg) = 0 → (∀ v16 : Int32, v16 = (x6 + 1) → (wX8_same_166 a1 a2 K201 post n x4 x5 v16 I J))) ∧ ((I 68 (x6).toNatClampNeg) = 0 → (wX8_isKept x5 a2 x6 I (fun r17 => ((¬ r17 = 0 → (K201 x4 x5 x6 I J)) ∧ (r17 = 0 → (∀ v18 : Int32, v18 = (x6 + 1) → (wX8_same_166 a1 a2 K201 post n x4 x5 v18 I J))))))))))) := h
    refine V_iload dX8_same_166 rfl ?_
    refine V_iload dX8_same_168 rfl ?_
    refine V_icmp_ge 201 dX8_same_170 rfl (fun hc => ?_) (fun hc => ?_)
    · replace h := h.1 hc
      exact hK201 _ _ _ _ _ h
    · replace h := h.2 hc
      refine V_aload_n dX8_same_173 rfl rfl ?_
      refine V_getr dX8_same_174 fl_RX8_65 (hS.n 51 rfl) (hS.k 51 8 rfl) rfl (hS.r 51 22 68 rfl) ?_
      refine V_iload dX8_same_177 rfl ?_
      obtain ⟨hb, h⟩ := h
      refine V_zald dX8_same_179 (hS.n 68 rfl) (hS.k 68 11 rfl) (by rw [(hS.z 68 400 rfl)]; exact hb) ?_
      refine V_if_ne 195 dX8_same_180 rfl (fun hc => ?_) (fun hc => ?_)
      · replace h := h.1 hc
        obtain ⟨v16, e_v16⟩ : ∃ z : Int32, z = (x6 + 1) := ⟨_, rfl⟩
        replace h := h v16 e_v16
        refine V_iinc (lo2 := [(6, .int v16), (0, .ref 51), (2, .int a2), (4, .int x4), (5, .int x5)]) 4 dX8_same_195 rfl (v := v16) (by rw [e_v16]; first | done | rfl) (by decide) rfl ?_
        refine V_goto 166 dX8_same_198 rfl ?_
        refine V_sub (lo2 := [(0, .ref 51), (2, .int a2), (4, .int x4), (5, .int x5), (6, .int v16)]) [1, 2, 3, 4, 0] rfl ?_
        exact ih _ _ _ _ _ h
      · replace h := h.2 hc
        refine V_aload_n dX8_same_183 rfl rfl ?_
        refine V_iload dX8_same_184 rfl ?_
        refine V_iload_n dX8_same_186 rfl rfl ?_
        refine V_iload dX8_same_187 rfl ?_
        refine V_callVi (st := []) [.int x5, .int a2, .int x6] dX8_same_189 ok_mX8_isKept rfl ml_RX8_205 in_mX8_isKept se_mX8_isKept (hS.n 51 rfl) (hS.k 51 8 rfl) (by decide) rfl (Nat.le_of_ble_eq_true rfl) (by decide) (by decide) (by decide) (s_mX8_isKept hS h) (fun r17 I9 J9 h => ?_)
        obtain ⟨rfl, rfl, h⟩ := h
        refine V_if_ne 201 dX8_same_192 rfl (fun hc => ?_) (fun hc => ?_)
        · replace h := h.1 hc
          exact hK201 _ _ _ _ _ h
        · replace h := h.2 hc
          obtain ⟨v18, e_v18⟩ : ∃ z : Int32, z = (x6 + 1) := ⟨_, rfl⟩
          replace h := h v18 e_v18
          refine V_iinc (lo2 := [(6, .int v18), (0, .ref 51), (2, .int a2), (4, .int x4), (5, .int x5)]) 4 dX8_same_195 rfl (v := v18) (by rw [e_v18]; first | done | rfl) (by decide) rfl ?_
          refine V_goto 166 dX8_same_198 rfl ?_
          refine V_sub (lo2 := [(0, .ref 51), (2, .int a2), (4, .int x4), (5, .int x5), (6, .int v18)]) [1, 2, 3, 4, 0] rfl ?_
          exact ih _ _ _ _ _ h
def wX8_same_156 (a1 : Int32) (a2 : Int32) (post : Int32 → QI → QJ → Prop) : Nat → Int32 → Int32 → QI → QJ → Prop
  | 0, _, _, _, _ => False
  | n + 1, x4, x5, I, J => ((x4 ≤ x5 → post 1 I J) ∧ (¬ x4 ≤ x5 → (∃ f : Nat, wX8_same_166 a1 a2 (fun u19 u20 u21 I22 J23 => ((¬ u21 = u19 → (vp_in u21 400 ∧ (∀ I24 : QI, I24 = q_u2 I22 68 (u21).toNatClampNeg 1 → (∀ v25 : Int32, v25 = (u20 + 1) → (wX8_same_156 a1 a2 post n u19 v25 I24 J23))))) ∧ (u21 = u19 → post 0 I22 J23))) post f x4 x5 0 I J)))
set_option maxRecDepth 100000 in
set_option maxHeartbeats 4000000 in
theorem swX8_same_156 {X : QX} {S : QS} {a1 : Int32} {a2 : Int32} {post : Int32 → QI → QJ → Prop} (hS : Sh S) : ∀ (f : Nat) (x4 : Int32) (x5 : Int32) (I : QI) (J : QJ), wX8_same_156 a1 a2 post f x4 x5 I J → V X mX8_same 6 0 0 (q_Pi S (fun r I2 J2 => post r I2 J2)) 156 [(0, .ref 51), (2, .int a2), (4, .int x4), (5, .int x5)] [] S I J 0 0 := by
  intro f
  induction f with
  | zero => intro x4 x5 I J h; exact h.elim
  | succ n ih =>
    intro x4 x5 I J h
    replace h : ((x4 ≤ x5 → post 1 I J) ∧ (¬ x4 ≤ x5 → (∃ f : Nat, wX8_same_166 a1 a2 (fun u19 u20 u21 I22 J23 => ((¬ u21 = u19 → (vp_in u21 400 ∧ (∀ I24 : QI, I24 = q_u2 I22 68 (u21).toNatClampNeg 1 → (∀ v25 : Int32, v25 = (u20 + 1) → (wX8_same_156 a1 a2 post n u19 v25 I24 J23))))) ∧ (u21 = u19 → post 0 I22 J23))) post f x4 x5 0 I J))) := h
    refine V_iload dX8_same_156 rfl ?_
    refine V_iload dX8_same_158 rfl ?_
    refine V_icmp_ge 224 dX8_same_160 rfl (fun hc => ?_) (fun hc => ?_)
    · replace h := h.1 hc
      refine V_iconst (v := 1) dX8_same_224 (by decide) ?_
      exact V_zret dX8_same_225 rfl (by decide) (by decide) (by decide) ⟨_, rfl, rfl, h⟩
    · replace h := h.2 hc
      refine V_iconst (v := 0) dX8_same_163 (by decide) ?_
      refine V_istore (lo2 := [(6, .int 0), (0, .ref 51), (2, .int a2), (4, .int x4), (5, .int x5)]) dX8_same_164 (by decide) rfl ?_
      refine V_sub (lo2 := [(0, .ref 51), (2, .int a2), (4, .int x4), (5, .int x5), (6, .int 0)]) [1, 2, 3, 4, 0] rfl ?_
      obtain ⟨f9, h⟩ := h
      refine swX8_same_166 hS ?_ f9 _ _ _ _ _ h
      · intro u19 u20 u21 I22 J23 h
        refine V_iload dX8_same_201 rfl ?_
        refine V_iload dX8_same_203 rfl ?_
        refine V_icmp_ne 210 dX8_same_205 rfl (fun hc => ?_) (fun hc => ?_)
        · replace h := h.1 hc
          refine V_aload_n dX8_same_210 rfl rfl ?_
          refine V_getr dX8_same_211 fl_RX8_65 (hS.n 51 rfl) (hS.k 51 8 rfl) rfl (hS.r 51 22 68 rfl) ?_
          refine V_iload dX8_same_214 rfl ?_
          refine V_iconst (v := 1) dX8_same_216 (by decide) ?_
          obtain ⟨hb, h⟩ := h
          refine V_zast dX8_same_217 (hS.n 68 rfl) (hS.k 68 11 rfl) (by rw [(hS.z 68 400 rfl)]; exact hb) (q_vz (by decide)) ?_
          refine V_memI (fun I24 e_I24 => ?_)
          replace h := h I24 e_I24
          obtain ⟨v25, e_v25⟩ : ∃ z : Int32, z = (u20 + 1) := ⟨_, rfl⟩
          replace h := h v25 e_v25
          refine V_iinc (lo2 := [(5, .int v25), (0, .ref 51), (2, .int a2), (4, .int u19), (6, .int u21)]) 3 dX8_same_218 rfl (v := v25) (by rw [e_v25]; first | done | rfl) (by decide) rfl ?_
          refine V_goto 156 dX8_same_221 rfl ?_
          refine V_sub (lo2 := [(0, .ref 51), (2, .int a2), (4, .int u19), (5, .int v25)]) [1, 2, 3, 0] rfl ?_
          exact ih _ _ _ _ h
        · replace h := h.2 hc
          refine V_iconst (v := 0) dX8_same_208 (by decide) ?_
          exact V_zret dX8_same_209 rfl (by decide) (by decide) (by decide) ⟨_, rfl, rfl, h⟩
def wX8_same (a1 : Int32) (a2 : Int32) (I : QI) (J : QJ) (post : Int32 → QI → QJ → Prop) : Prop := (wX8_isNode a1 I (fun r1 => ((r1 = 0 → (wX8_goesWell 1 I (fun r3 I2 => ((¬ r3 = 0 → (vp_in a1 24 ∧ (∀ v4 : Int32, v4 = (I2 64 (a1).toNatClampNeg) → (∃ f : Nat, wX8_same_63 a1 a2 (fun u7 I8 J9 => (wX8_work a2 I8 J9 (fun r12 I10 J11 => ((r12 = 0 → (wX8_goesWell 2 I10 (fun r14 I13 => ((r14 = 0 → post 0 I13 J11) ∧ (¬ r14 = 0 → (vp_in a1 24 ∧ (vp_in a2 24 ∧ ((¬ (I13 61 (a1).toNatClampNeg) = (I13 61 (a2).toNatClampNeg) → post 0 I13 J11) ∧ ((I13 61 (a1).toNatClampNeg) = (I13 61 (a2).toNatClampNeg) → (vp_in a2 24 ∧ ((u7 = (I13 64 (a2).toNatClampNeg) → (wJ7_fill 68 400 0 I13 (fun I15 => (∃ f : Nat, wX8_same_156 a1 a2 post f u7 0 I15 J11)))) ∧ (¬ u7 = (I13 64 (a2).toNatClampNeg) → post 0 I13 J11)))))))))))) ∧ (¬ r12 = 0 → (wX8_goesWell 0 I10 (fun r27 I26 => ((r27 = 0 → post 0 I26 J11) ∧ (¬ r27 = 0 → (vp_in a1 24 ∧ (vp_in a2 24 ∧ ((¬ (I26 61 (a1).toNatClampNeg) = (I26 61 (a2).toNatClampNeg) → post 0 I26 J11) ∧ ((I26 61 (a1).toNatClampNeg) = (I26 61 (a2).toNatClampNeg) → (vp_in a2 24 ∧ ((u7 = (I26 64 (a2).toNatClampNeg) → (wJ7_fill 68 400 0 I26 (fun I28 => (∃ f : Nat, wX8_same_156 a1 a2 post f u7 0 I28 J11)))) ∧ (¬ u7 = (I26 64 (a2).toNatClampNeg) → post 0 I26 J11)))))))))))))))) post f v4 0 I2 J)))) ∧ (r3 = 0 → post 0 I2 J))))) ∧ (¬ r1 = 0 → (wX8_isNode a2 I (fun r29 => ((r29 = 0 → (wX8_goesWell 1 I (fun r31 I30 => ((¬ r31 = 0 → (vp_in a1 24 ∧ (∀ v32 : Int32, v32 = (I30 64 (a1).toNatClampNeg) → (∃ f : Nat, wX8_same_63 a1 a2 (fun u33 I34 J35 => (wX8_work a2 I34 J35 (fun r38 I36 J37 => ((r38 = 0 → (wX8_goesWell 2 I36 (fun r40 I39 => ((r40 = 0 → post 0 I39 J37) ∧ (¬ r40 = 0 → (vp_in a1 24 ∧ (vp_in a2 24 ∧ ((¬ (I39 61 (a1).toNatClampNeg) = (I39 61 (a2).toNatClampNeg) → post 0 I39 J37) ∧ ((I39 61 (a1).toNatClampNeg) = (I39 61 (a2).toNatClampNeg) → (vp_in a2 24 ∧ ((u33 = (I39 64 (a2).toNatClampNeg) → (wJ7_fill 68 400 0 I39 (fun I41 => (∃ f : Nat, wX8_same_156 a1 a2 post f u33 0 I41 J37)))) ∧ (¬ u33 = (I39 64 (a2).toNatClampNeg) → post 0 I39 J37)))))))))))) ∧ (¬ r38 = 0 → (wX8_goesWell 0 I36 (fun r43 I42 => ((r43 = 0 → post 0 I42 J37) ∧ (¬ r43 = 0 → (vp_in a1 24 ∧ (vp_in a2 24 ∧ ((¬ (I42 61 (a1).toNatClampNeg) = (I42 61 (a2).toNatClampNeg) → post 0 I42 J37) ∧ ((I42 61 (a1).toNatClampNeg) = (I42 61 (a2).toNatClampNeg) → (vp_in a2 24 ∧ ((u33 = (I42 64 (a2).toNatClampNeg) → (wJ7_fill 68 400 0 I42 (fun I44 => (∃ f : Nat, wX8_same_156 a1 a2 post f u33 0 I44 J37)))) ∧ (¬ u33 = (I42 64 (a2).toNatClampNeg) → post 0 I42 J37)))))))))))))))) post f v32 0 I30 J)))) ∧ (r31 = 0 → post 0 I30 J))))) ∧ (¬ r29 = 0 → (wX8_work a1 I J (fun r47 I45 J46 => ((r47 = 0 → (wX8_goesWell 2 I45 (fun r49 I48 => ((¬ r49 = 0 → (vp_in a1 24 ∧ (∀ v50 : Int32, v50 = (I48 64 (a1).toNatClampNeg) → (∃ f : Nat, wX8_same_63 a1 a2 (fun u51 I52 J53 => (wX8_work a2 I52 J53 (fun r56 I54 J55 => ((r56 = 0 → (wX8_goesWell 2 I54 (fun r58 I57 => ((r58 = 0 → post 0 I57 J55) ∧ (¬ r58 = 0 → (vp_in a1 24 ∧ (vp_in a2 24 ∧ ((¬ (I57 61 (a1).toNatClampNeg) = (I57 61 (a2).toNatClampNeg) → post 0 I57 J55) ∧ ((I57 61 (a1).toNatClampNeg) = (I57 61 (a2).toNatClampNeg) → (vp_in a2 24 ∧ ((u51 = (I57 64 (a2).toNatClampNeg) → (wJ7_fill 68 400 0 I57 (fun I59 => (∃ f : Nat, wX8_same_156 a1 a2 post f u51 0 I59 J55)))) ∧ (¬ u51 = (I57 64 (a2).toNatClampNeg) → post 0 I57 J55)))))))))))) ∧ (¬ r56 = 0 → (wX8_goesWell 0 I54 (fun r61 I60 => ((r61 = 0 → post 0 I60 J55) ∧ (¬ r61 = 0 → (vp_in a1 24 ∧ (vp_in a2 24 ∧ ((¬ (I60 61 (a1).toNatClampNeg) = (I60 61 (a2).toNatClampNeg) → post 0 I60 J55) ∧ ((I60 61 (a1).toNatClampNeg) = (I60 61 (a2).toNatClampNeg) → (vp_in a2 24 ∧ ((u51 = (I60 64 (a2).toNatClampNeg) → (wJ7_fill 68 400 0 I60 (fun I62 => (∃ f : Nat, wX8_same_156 a1 a2 post f u51 0 I62 J55)))) ∧ (¬ u51 = (I60 64 (a2).toNatClampNeg) → post 0 I60 J55)))))))))))))))) post f v50 0 I48 J46)))) ∧ (r49 = 0 → post 0 I48 J46))))) ∧ (¬ r47 = 0 → (wX8_goesWell 0 I45 (fun r64 I63 => ((¬ r64 = 0 → (vp_in a1 24 ∧ (∀ v65 : Int32, v65 = (I63 64 (a1).toNatClampNeg) → (∃ f : Nat, wX8_same_63 a1 a2 (fun u66 I67 J68 => (wX8_work a2 I67 J68 (fun r71 I69 J70 => ((r71 = 0 → (wX8_goesWell 2 I69 (fun r73 I72 => ((r73 = 0 → post 0 I72 J70) ∧ (¬ r73 = 0 → (vp_in a1 24 ∧ (vp_in a2 24 ∧ ((¬ (I72 61 (a1).toNatClampNeg) = (I72 61 (a2).toNatClampNeg) → post 0 I72 J70) ∧ ((I72 61 (a1).toNatClampNeg) = (I72 61 (a2).toNatClampNeg) → (vp_in a2 24 ∧ ((u66 = (I72 64 (a2).toNatClampNeg) → (wJ7_fill 68 400 0 I72 (fun I74 => (∃ f : Nat, wX8_same_156 a1 a2 post f u66 0 I74 J70)))) ∧ (¬ u66 = (I72 64 (a2).toNatClampNeg) → post 0 I72 J70)))))))))))) ∧ (¬ r71 = 0 → (wX8_goesWell 0 I69 (fun r76 I75 => ((r76 = 0 → post 0 I75 J70) ∧ (¬ r76 = 0 → (vp_in a1 24 ∧ (vp_in a2 24 ∧ ((¬ (I75 61 (a1).toNatClampNeg) = (I75 61 (a2).toNatClampNeg) → post 0 I75 J70) ∧ ((I75 61 (a1).toNatClampNeg) = (I75 61 (a2).toNatClampNeg) → (vp_in a2 24 ∧ ((u66 = (I75 64 (a2).toNatClampNeg) → (wJ7_fill 68 400 0 I75 (fun I77 => (∃ f : Nat, wX8_same_156 a1 a2 post f u66 0 I77 J70)))) ∧ (¬ u66 = (I75 64 (a2).toNatClampNeg) → post 0 I75 J70)))))))))))))))) post f v65 0 I63 J46)))) ∧ (r64 = 0 → post 0 I63 J46))))))))))))))))
set_option maxRecDepth 100000 in
set_option maxHeartbeats 4000000 in
theorem s_mX8_same {X : QX} {S : QS} {a1 : Int32} {a2 : Int32} {I : QI} {J : QJ} {post : Int32 → QI → QJ → Prop} (hS : Sh S) (h : wX8_same a1 a2 I J post) : CX X mX8_same 6 0 0 [.ref 51, .int a1, .int a2] S I J (q_Pi S (fun r I2 J2 => post r I2 J2)) := by
  refine CX.of (lo := [(0, .ref 51), (1, .int a1), (2, .int a2)]) ok_mX8_same rfl (Nat.le_of_ble_eq_true rfl) rfl ?_
  replace h : (wX8_isNode a1 I (fun r1 => ((r1 = 0 → (wX8_goesWell 1 I (fun r3 I2 => ((¬ r3 = 0 → (vp_in a1 24 ∧ (∀ v4 : Int32, v4 = (I2 64 (a1).toNatClampNeg) → (∃ f : Nat, wX8_same_63 a1 a2 (fun u7 I8 J9 => (wX8_work a2 I8 J9 (fun r12 I10 J11 => ((r12 = 0 → (wX8_goesWell 2 I10 (fun r14 I13 => ((r14 = 0 → post 0 I13 J11) ∧ (¬ r14 = 0 → (vp_in a1 24 ∧ (vp_in a2 24 ∧ ((¬ (I13 61 (a1).toNatClampNeg) = (I13 61 (a2).toNatClampNeg) → post 0 I13 J11) ∧ ((I13 61 (a1).toNatClampNeg) = (I13 61 (a2).toNatClampNeg) → (vp_in a2 24 ∧ ((u7 = (I13 64 (a2).toNatClampNeg) → (wJ7_fill 68 400 0 I13 (fun I15 => (∃ f : Nat, wX8_same_156 a1 a2 post f u7 0 I15 J11)))) ∧ (¬ u7 = (I13 64 (a2).toNatClampNeg) → post 0 I13 J11)))))))))))) ∧ (¬ r12 = 0 → (wX8_goesWell 0 I10 (fun r27 I26 => ((r27 = 0 → post 0 I26 J11) ∧ (¬ r27 = 0 → (vp_in a1 24 ∧ (vp_in a2 24 ∧ ((¬ (I26 61 (a1).toNatClampNeg) = (I26 61 (a2).toNatClampNeg) → post 0 I26 J11) ∧ ((I26 61 (a1).toNatClampNeg) = (I26 61 (a2).toNatClampNeg) → (vp_in a2 24 ∧ ((u7 = (I26 64 (a2).toNatClampNeg) → (wJ7_fill 68 400 0 I26 (fun I28 => (∃ f : Nat, wX8_same_156 a1 a2 post f u7 0 I28 J11)))) ∧ (¬ u7 = (I26 64 (a2).toNatClampNeg) → post 0 I26 J11)))))))))))))))) post f v4 0 I2 J)))) ∧ (r3 = 0 → post 0 I2 J))))) ∧ (¬ r1 = 0 → (wX8_isNode a2 I (fun r29 => ((r29 = 0 → (wX8_goesWell 1 I (fun r31 I30 => ((¬ r31 = 0 → (vp_in a1 24 ∧ (∀ v32 : Int32, v32 = (I30 64 (a1).toNatClampNeg) → (∃ f : Nat, wX8_same_63 a1 a2 (fun u33 I34 J35 => (wX8_work a2 I34 J35 (fun r38 I36 J37 => ((r38 = 0 → (wX8_goesWell 2 I36 (fun r40 I39 => ((r40 = 0 → post 0 I39 J37) ∧ (¬ r40 = 0 → (vp_in a1 24 ∧ (vp_in a2 24 ∧ ((¬ (I39 61 (a1).toNatClampNeg) = (I39 61 (a2).toNatClampNeg) → post 0 I39 J37) ∧ ((I39 61 (a1).toNatClampNeg) = (I39 61 (a2).toNatClampNeg) → (vp_in a2 24 ∧ ((u33 = (I39 64 (a2).toNatClampNeg) → (wJ7_fill 68 400 0 I39 (fun I41 => (∃ f : Nat, wX8_same_156 a1 a2 post f u33 0 I41 J37)))) ∧ (¬ u33 = (I39 64 (a2).toNatClampNeg) → post 0 I39 J37)))))))))))) ∧ (¬ r38 = 0 → (wX8_goesWell 0 I36 (fun r43 I42 => ((r43 = 0 → post 0 I42 J37) ∧ (¬ r43 = 0 → (vp_in a1 24 ∧ (vp_in a2 24 ∧ ((¬ (I42 61 (a1).toNatClampNeg) = (I42 61 (a2).toNatClampNeg) → post 0 I42 J37) ∧ ((I42 61 (a1).toNatClampNeg) = (I42 61 (a2).toNatClampNeg) → (vp_in a2 24 ∧ ((u33 = (I42 64 (a2).toNatClampNeg) → (wJ7_fill 68 400 0 I42 (fun I44 => (∃ f : Nat, wX8_same_156 a1 a2 post f u33 0 I44 J37)))) ∧ (¬ u33 = (I42 64 (a2).toNatClampNeg) → post 0 I42 J37)))))))))))))))) post f v32 0 I30 J)))) ∧ (r31 = 0 → post 0 I30 J))))) ∧ (¬ r29 = 0 → (wX8_work a1 I J (fun r47 I45 J46 => ((r47 = 0 → (wX8_goesWell 2 I45 (fun r49 I48 => ((¬ r49 = 0 → (vp_in a1 24 ∧ (∀ v50 : Int32, v50 = (I48 64 (a1).toNatClampNeg) → (∃ f : Nat, wX8_same_63 a1 a2 (fun u51 I52 J53 => (wX8_work a2 I52 J53 (fun r56 I54 J55 => ((r56 = 0 → (wX8_goesWell 2 I54 (fun r58 I57 => ((r58 = 0 → post 0 I57 J55) ∧ (¬ r58 = 0 → (vp_in a1 24 ∧ (vp_in a2 24 ∧ ((¬ (I57 61 (a1).toNatClampNeg) = (I57 61 (a2).toNatClampNeg) → post 0 I57 J55) ∧ ((I57 61 (a1).toNatClampNeg) = (I57 61 (a2).toNatClampNeg) → (vp_in a2 24 ∧ ((u51 = (I57 64 (a2).toNatClampNeg) → (wJ7_fill 68 400 0 I57 (fun I59 => (∃ f : Nat, wX8_same_156 a1 a2 post f u51 0 I59 J55)))) ∧ (¬ u51 = (I57 64 (a2).toNatClampNeg) → post 0 I57 J55)))))))))))) ∧ (¬ r56 = 0 → (wX8_goesWell 0 I54 (fun r61 I60 => ((r61 = 0 → post 0 I60 J55) ∧ (¬ r61 = 0 → (vp_in a1 24 ∧ (vp_in a2 24 ∧ ((¬ (I60 61 (a1).toNatClampNeg) = (I60 61 (a2).toNatClampNeg) → post 0 I60 J55) ∧ ((I60 61 (a1).toNatClampNeg) = (I60 61 (a2).toNatClampNeg) → (vp_in a2 24 ∧ ((u51 = (I60 64 (a2).toNatClampNeg) → (wJ7_fill 68 400 0 I60 (fun I62 => (∃ f : Nat, wX8_same_156 a1 a2 post f u51 0 I62 J55)))) ∧ (¬ u51 = (I60 64 (a2).toNatClampNeg) → post 0 I60 J55)))))))))))))))) post f v50 0 I48 J46)))) ∧ (r49 = 0 → post 0 I48 J46))))) ∧ (¬ r47 = 0 → (wX8_goesWell 0 I45 (fun r64 I63 => ((¬ r64 = 0 → (vp_in a1 24 ∧ (∀ v65 : Int32, v65 = (I63 64 (a1).toNatClampNeg) → (∃ f : Nat, wX8_same_63 a1 a2 (fun u66 I67 J68 => (wX8_work a2 I67 J68 (fun r71 I69 J70 => ((r71 = 0 → (wX8_goesWell 2 I69 (fun r73 I72 => ((r73 = 0 → post 0 I72 J70) ∧ (¬ r73 = 0 → (vp_in a1 24 ∧ (vp_in a2 24 ∧ ((¬ (I72 61 (a1).toNatClampNeg) = (I72 61 (a2).toNatClampNeg) → post 0 I72 J70) ∧ ((I72 61 (a1).toNatClampNeg) = (I72 61 (a2).toNatClampNeg) → (vp_in a2 24 ∧ ((u66 = (I72 64 (a2).toNatClampNeg) → (wJ7_fill 68 400 0 I72 (fun I74 => (∃ f : Nat, wX8_same_156 a1 a2 post f u66 0 I74 J70)))) ∧ (¬ u66 = (I72 64 (a2).toNatClampNeg) → post 0 I72 J70)))))))))))) ∧ (¬ r71 = 0 → (wX8_goesWell 0 I69 (fun r76 I75 => ((r76 = 0 → post 0 I75 J70) ∧ (¬ r76 = 0 → (vp_in a1 24 ∧ (vp_in a2 24 ∧ ((¬ (I75 61 (a1).toNatClampNeg) = (I75 61 (a2).toNatClampNeg) → post 0 I75 J70) ∧ ((I75 61 (a1).toNatClampNeg) = (I75 61 (a2).toNatClampNeg) → (vp_in a2 24 ∧ ((u66 = (I75 64 (a2).toNatClampNeg) → (wJ7_fill 68 400 0 I75 (fun I77 => (∃ f : Nat, wX8_same_156 a1 a2 post f u66 0 I77 J70)))) ∧ (¬ u66 = (I75 64 (a2).toNatClampNeg) → post 0 I75 J70)))))))))))))))) post f v65 0 I63 J46)))) ∧ (r64 = 0 → post 0 I63 J46)))))))))))))))) := h
  refine V_aload_n dX8_same_0 rfl rfl ?_
  refine V_iload_n dX8_same_1 rfl rfl ?_
  refine V_callVi (st := []) [.int a1] dX8_same_2 ok_mX8_isNode rfl ml_RX8_121 in_mX8_isNode se_mX8_isNode (hS.n 51 rfl) (hS.k 51 8 rfl) (by decide) rfl (Nat.le_of_ble_eq_true rfl) (by decide) (by decide) (by decide) (s_mX8_isNode hS h) (fun r1 I9 J9 h => ?_)
  obtain ⟨rfl, rfl, h⟩ := h
  refine V_if_eq 20 dX8_same_5 rfl (fun hc => ?_) (fun hc => ?_)
  · replace h := h.1 hc
    refine V_iconst (v := 0) dX8_same_20 (by decide) ?_
    refine V_istore_n (lo2 := [(3, .int 0), (0, .ref 51), (1, .int a1), (2, .int a2)]) dX8_same_21 rfl (by decide) rfl ?_
    refine V_aload_n dX8_same_22 rfl rfl ?_
    refine V_iload_n dX8_same_23 rfl rfl ?_
    refine V_if_ne 31 dX8_same_24 rfl (fun hc => ?_) (fun hc => ?_)
    · first | exact absurd hc (by decide) | exact absurd (by decide) hc
    · refine V_iconst (v := 1) dX8_same_27 (by decide) ?_
      refine V_goto 44 dX8_same_28 rfl ?_
      refine V_callVi (st := []) [.int 1] dX8_same_44 ok_mX8_goesWell rfl ml_RX8_112 in_mX8_goesWell se_mX8_goesWell (hS.n 51 rfl) (hS.k 51 8 rfl) (by decide) rfl (Nat.le_of_ble_eq_true rfl) (by decide) (by decide) (by decide) (s_mX8_goesWell hS h) (fun r3 I2 J9 h => ?_)
      obtain ⟨rfl, h⟩ := h
      refine V_if_ne 52 dX8_same_47 rfl (fun hc => ?_) (fun hc => ?_)
      · replace h := h.1 hc
        refine V_aload_n dX8_same_52 rfl rfl ?_
        refine V_getr dX8_same_53 fl_RX8_51 (hS.n 51 rfl) (hS.k 51 8 rfl) rfl (hS.r 51 18 64 rfl) ?_
        refine V_iload_n dX8_same_56 rfl rfl ?_
        obtain ⟨hb, h⟩ := h
        refine V_iald dX8_same_57 (hS.n 64 rfl) (hS.k 64 9 rfl) (by rw [(hS.z 64 24 rfl)]; exact hb) ?_
        refine V_topi (fun v4 e_v4 => ?_)
        replace h := h v4 e_v4
        refine V_istore (lo2 := [(4, .int v4), (3, .int 0), (0, .ref 51), (1, .int a1), (2, .int a2)]) dX8_same_58 (by decide) rfl ?_
        refine V_iconst (v := 0) dX8_same_60 (by decide) ?_
        refine V_istore (lo2 := [(5, .int 0), (4, .int v4), (3, .int 0), (0, .ref 51), (1, .int a1), (2, .int a2)]) dX8_same_61 (by decide) rfl ?_
        refine V_sub (lo2 := [(0, .ref 51), (1, .int a1), (2, .int a2), (4, .int v4), (5, .int 0)]) [3, 4, 5, 1, 0] rfl ?_
        obtain ⟨f9, h⟩ := h
        refine swX8_same_63 hS ?_ f9 _ _ _ _ h
        · intro u7 I8 J9 h
          refine V_aload_n dX8_same_97 rfl rfl ?_
          refine V_aload_n dX8_same_98 rfl rfl ?_
          refine V_iload_n dX8_same_99 rfl rfl ?_
          refine V_callVi (st := [.ref 51]) [.int a2] dX8_same_100 ok_mX8_work rfl ml_RX8_202 in_mX8_work se_mX8_work (hS.n 51 rfl) (hS.k 51 8 rfl) (by decide) rfl (Nat.le_of_ble_eq_true rfl) (by decide) (by decide) (by decide) (s_mX8_work hS h) (fun r12 I10 J11 h => ?_)
          refine V_if_eq 110 dX8_same_103 rfl (fun hc => ?_) (fun hc => ?_)
          · replace h := h.1 hc
            refine V_iconst (v := 2) dX8_same_110 (by decide) ?_
            refine V_callVi (st := []) [.int 2] dX8_same_111 ok_mX8_goesWell rfl ml_RX8_112 in_mX8_goesWell se_mX8_goesWell (hS.n 51 rfl) (hS.k 51 8 rfl) (by decide) rfl (Nat.le_of_ble_eq_true rfl) (by decide) (by decide) (by decide) (s_mX8_goesWell hS h) (fun r14 I13 J9 h => ?_)
            obtain ⟨rfl, h⟩ := h
            refine V_if_eq 143 dX8_same_114 rfl (fun hc => ?_) (fun hc => ?_)
            · replace h := h.1 hc
              refine V_iconst (v := 0) dX8_same_143 (by decide) ?_
              exact V_zret dX8_same_144 rfl (by decide) (by decide) (by decide) ⟨_, rfl, rfl, h⟩
            · replace h := h.2 hc
              refine V_aload_n dX8_same_117 rfl rfl ?_
              refine V_getr dX8_same_118 fl_RX8_37 (hS.n 51 rfl) (hS.k 51 8 rfl) rfl (hS.r 51 12 61 rfl) ?_
              refine V_iload_n dX8_same_121 rfl rfl ?_
              obtain ⟨hb, h⟩ := h
              refine V_iald dX8_same_122 (hS.n 61 rfl) (hS.k 61 9 rfl) (by rw [(hS.z 61 24 rfl)]; exact hb) ?_
              refine V_aload_n dX8_same_123 rfl rfl ?_
              refine V_getr dX8_same_124 fl_RX8_37 (hS.n 51 rfl) (hS.k 51 8 rfl) rfl (hS.r 51 12 61 rfl) ?_
              refine V_iload_n dX8_same_127 rfl rfl ?_
              obtain ⟨hb, h⟩ := h
              refine V_iald dX8_same_128 (hS.n 61 rfl) (hS.k 61 9 rfl) (by rw [(hS.z 61 24 rfl)]; exact hb) ?_
              refine V_icmp_ne 143 dX8_same_129 rfl (fun hc => ?_) (fun hc => ?_)
              · replace h := h.1 hc
                refine V_iconst (v := 0) dX8_same_143 (by decide) ?_
                exact V_zret dX8_same_144 rfl (by decide) (by decide) (by decide) ⟨_, rfl, rfl, h⟩
              · replace h := h.2 hc
                refine V_iload dX8_same_132 rfl ?_
                refine V_aload_n dX8_same_134 rfl rfl ?_
                refine V_getr dX8_same_135 fl_RX8_51 (hS.n 51 rfl) (hS.k 51 8 rfl) rfl (hS.r 51 18 64 rfl) ?_
                refine V_iload_n dX8_same_138 rfl rfl ?_
                obtain ⟨hb, h⟩ := h
                refine V_iald dX8_same_139 (hS.n 64 rfl) (hS.k 64 9 rfl) (by rw [(hS.z 64 24 rfl)]; exact hb) ?_
                refine V_icmp_eq 145 dX8_same_140 rfl (fun hc => ?_) (fun hc => ?_)
                · replace h := h.1 hc
                  refine V_aload_n dX8_same_145 rfl rfl ?_
                  refine V_getr dX8_same_146 fl_RX8_65 (hS.n 51 rfl) (hS.k 51 8 rfl) rfl (hS.r 51 22 68 rfl) ?_
                  refine V_iconst (v := 0) dX8_same_149 (by decide) ?_
                  refine V_callSv (st := []) [.ref 68, .int 0] dX8_same_150 ok_mJ7_fill_49daa rfl ml_RX8_166 st_mJ7_fill_49daa (Nat.le_of_ble_eq_true rfl) (by decide) (by decide) (by decide) (s_mJ7_fill (hS.n 68 rfl) (hS.k 68 11 rfl) (hS.z 68 400 rfl) (by decide) h) (fun I15 J9 h => ?_)
                  obtain ⟨rfl, h⟩ := h
                  refine V_iconst (v := 0) dX8_same_153 (by decide) ?_
                  refine V_istore (lo2 := [(5, .int 0), (0, .ref 51), (1, .int a1), (2, .int a2), (4, .int u7)]) dX8_same_154 (by decide) rfl ?_
                  refine V_sub (lo2 := [(0, .ref 51), (2, .int a2), (4, .int u7), (5, .int 0)]) [1, 3, 4, 0] rfl ?_
                  obtain ⟨f9, h⟩ := h
                  refine swX8_same_156 hS f9 _ _ _ _ h
                · replace h := h.2 hc
                  refine V_iconst (v := 0) dX8_same_143 (by decide) ?_
                  exact V_zret dX8_same_144 rfl (by decide) (by decide) (by decide) ⟨_, rfl, rfl, h⟩
          · replace h := h.2 hc
            refine V_iconst (v := 0) dX8_same_106 (by decide) ?_
            refine V_goto 111 dX8_same_107 rfl ?_
            refine V_callVi (st := []) [.int 0] dX8_same_111 ok_mX8_goesWell rfl ml_RX8_112 in_mX8_goesWell se_mX8_goesWell (hS.n 51 rfl) (hS.k 51 8 rfl) (by decide) rfl (Nat.le_of_ble_eq_true rfl) (by decide) (by decide) (by decide) (s_mX8_goesWell hS h) (fun r27 I26 J9 h => ?_)
            obtain ⟨rfl, h⟩ := h
            refine V_if_eq 143 dX8_same_114 rfl (fun hc => ?_) (fun hc => ?_)
            · replace h := h.1 hc
              refine V_iconst (v := 0) dX8_same_143 (by decide) ?_
              exact V_zret dX8_same_144 rfl (by decide) (by decide) (by decide) ⟨_, rfl, rfl, h⟩
            · replace h := h.2 hc
              refine V_aload_n dX8_same_117 rfl rfl ?_
              refine V_getr dX8_same_118 fl_RX8_37 (hS.n 51 rfl) (hS.k 51 8 rfl) rfl (hS.r 51 12 61 rfl) ?_
              refine V_iload_n dX8_same_121 rfl rfl ?_
              obtain ⟨hb, h⟩ := h
              refine V_iald dX8_same_122 (hS.n 61 rfl) (hS.k 61 9 rfl) (by rw [(hS.z 61 24 rfl)]; exact hb) ?_
              refine V_aload_n dX8_same_123 rfl rfl ?_
              refine V_getr dX8_same_124 fl_RX8_37 (hS.n 51 rfl) (hS.k 51 8 rfl) rfl (hS.r 51 12 61 rfl) ?_
              refine V_iload_n dX8_same_127 rfl rfl ?_
              obtain ⟨hb, h⟩ := h
              refine V_iald dX8_same_128 (hS.n 61 rfl) (hS.k 61 9 rfl) (by rw [(hS.z 61 24 rfl)]; exact hb) ?_
              refine V_icmp_ne 143 dX8_same_129 rfl (fun hc => ?_) (fun hc => ?_)
              · replace h := h.1 hc
                refine V_iconst (v := 0) dX8_same_143 (by decide) ?_
                exact V_zret dX8_same_144 rfl (by decide) (by decide) (by decide) ⟨_, rfl, rfl, h⟩
              · replace h := h.2 hc
                refine V_iload dX8_same_132 rfl ?_
                refine V_aload_n dX8_same_134 rfl rfl ?_
                refine V_getr dX8_same_135 fl_RX8_51 (hS.n 51 rfl) (hS.k 51 8 rfl) rfl (hS.r 51 18 64 rfl) ?_
                refine V_iload_n dX8_same_138 rfl rfl ?_
                obtain ⟨hb, h⟩ := h
                refine V_iald dX8_same_139 (hS.n 64 rfl) (hS.k 64 9 rfl) (by rw [(hS.z 64 24 rfl)]; exact hb) ?_
                refine V_icmp_eq 145 dX8_same_140 rfl (fun hc => ?_) (fun hc => ?_)
                · replace h := h.1 hc
                  refine V_aload_n dX8_same_145 rfl rfl ?_
                  refine V_getr dX8_same_146 fl_RX8_65 (hS.n 51 rfl) (hS.k 51 8 rfl) rfl (hS.r 51 22 68 rfl) ?_
                  refine V_iconst (v := 0) dX8_same_149 (by decide) ?_
                  refine V_callSv (st := []) [.ref 68, .int 0] dX8_same_150 ok_mJ7_fill_49daa rfl ml_RX8_166 st_mJ7_fill_49daa (Nat.le_of_ble_eq_true rfl) (by decide) (by decide) (by decide) (s_mJ7_fill (hS.n 68 rfl) (hS.k 68 11 rfl) (hS.z 68 400 rfl) (by decide) h) (fun I28 J9 h => ?_)
                  obtain ⟨rfl, h⟩ := h
                  refine V_iconst (v := 0) dX8_same_153 (by decide) ?_
                  refine V_istore (lo2 := [(5, .int 0), (0, .ref 51), (1, .int a1), (2, .int a2), (4, .int u7)]) dX8_same_154 (by decide) rfl ?_
                  refine V_sub (lo2 := [(0, .ref 51), (2, .int a2), (4, .int u7), (5, .int 0)]) [1, 3, 4, 0] rfl ?_
                  obtain ⟨f9, h⟩ := h
                  refine swX8_same_156 hS f9 _ _ _ _ h
                · replace h := h.2 hc
                  refine V_iconst (v := 0) dX8_same_143 (by decide) ?_
                  exact V_zret dX8_same_144 rfl (by decide) (by decide) (by decide) ⟨_, rfl, rfl, h⟩
      · replace h := h.2 hc
        refine V_iconst (v := 0) dX8_same_50 (by decide) ?_
        exact V_zret dX8_same_51 rfl (by decide) (by decide) (by decide) ⟨_, rfl, rfl, h⟩
  · replace h := h.2 hc
    refine V_aload_n dX8_same_8 rfl rfl ?_
    refine V_iload_n dX8_same_9 rfl rfl ?_
    refine V_callVi (st := []) [.int a2] dX8_same_10 ok_mX8_isNode rfl ml_RX8_121 in_mX8_isNode se_mX8_isNode (hS.n 51 rfl) (hS.k 51 8 rfl) (by decide) rfl (Nat.le_of_ble_eq_true rfl) (by decide) (by decide) (by decide) (s_mX8_isNode hS h) (fun r29 I9 J9 h => ?_)
    obtain ⟨rfl, rfl, h⟩ := h
    refine V_if_eq 20 dX8_same_13 rfl (fun hc => ?_) (fun hc => ?_)
    · replace h := h.1 hc
      refine V_iconst (v := 0) dX8_same_20 (by decide) ?_
      refine V_istore_n (lo2 := [(3, .int 0), (0, .ref 51), (1, .int a1), (2, .int a2)]) dX8_same_21 rfl (by decide) rfl ?_
      refine V_aload_n dX8_same_22 rfl rfl ?_
      refine V_iload_n dX8_same_23 rfl rfl ?_
      refine V_if_ne 31 dX8_same_24 rfl (fun hc => ?_) (fun hc => ?_)
      · first | exact absurd hc (by decide) | exact absurd (by decide) hc
      · refine V_iconst (v := 1) dX8_same_27 (by decide) ?_
        refine V_goto 44 dX8_same_28 rfl ?_
        refine V_callVi (st := []) [.int 1] dX8_same_44 ok_mX8_goesWell rfl ml_RX8_112 in_mX8_goesWell se_mX8_goesWell (hS.n 51 rfl) (hS.k 51 8 rfl) (by decide) rfl (Nat.le_of_ble_eq_true rfl) (by decide) (by decide) (by decide) (s_mX8_goesWell hS h) (fun r31 I30 J9 h => ?_)
        obtain ⟨rfl, h⟩ := h
        refine V_if_ne 52 dX8_same_47 rfl (fun hc => ?_) (fun hc => ?_)
        · replace h := h.1 hc
          refine V_aload_n dX8_same_52 rfl rfl ?_
          refine V_getr dX8_same_53 fl_RX8_51 (hS.n 51 rfl) (hS.k 51 8 rfl) rfl (hS.r 51 18 64 rfl) ?_
          refine V_iload_n dX8_same_56 rfl rfl ?_
          obtain ⟨hb, h⟩ := h
          refine V_iald dX8_same_57 (hS.n 64 rfl) (hS.k 64 9 rfl) (by rw [(hS.z 64 24 rfl)]; exact hb) ?_
          refine V_topi (fun v32 e_v32 => ?_)
          replace h := h v32 e_v32
          refine V_istore (lo2 := [(4, .int v32), (3, .int 0), (0, .ref 51), (1, .int a1), (2, .int a2)]) dX8_same_58 (by decide) rfl ?_
          refine V_iconst (v := 0) dX8_same_60 (by decide) ?_
          refine V_istore (lo2 := [(5, .int 0), (4, .int v32), (3, .int 0), (0, .ref 51), (1, .int a1), (2, .int a2)]) dX8_same_61 (by decide) rfl ?_
          refine V_sub (lo2 := [(0, .ref 51), (1, .int a1), (2, .int a2), (4, .int v32), (5, .int 0)]) [3, 4, 5, 1, 0] rfl ?_
          obtain ⟨f9, h⟩ := h
          refine swX8_same_63 hS ?_ f9 _ _ _ _ h
          · intro u33 I34 J35 h
            refine V_aload_n dX8_same_97 rfl rfl ?_
            refine V_aload_n dX8_same_98 rfl rfl ?_
            refine V_iload_n dX8_same_99 rfl rfl ?_
            refine V_callVi (st := [.ref 51]) [.int a2] dX8_same_100 ok_mX8_work rfl ml_RX8_202 in_mX8_work se_mX8_work (hS.n 51 rfl) (hS.k 51 8 rfl) (by decide) rfl (Nat.le_of_ble_eq_true rfl) (by decide) (by decide) (by decide) (s_mX8_work hS h) (fun r38 I36 J37 h => ?_)
            refine V_if_eq 110 dX8_same_103 rfl (fun hc => ?_) (fun hc => ?_)
            · replace h := h.1 hc
              refine V_iconst (v := 2) dX8_same_110 (by decide) ?_
              refine V_callVi (st := []) [.int 2] dX8_same_111 ok_mX8_goesWell rfl ml_RX8_112 in_mX8_goesWell se_mX8_goesWell (hS.n 51 rfl) (hS.k 51 8 rfl) (by decide) rfl (Nat.le_of_ble_eq_true rfl) (by decide) (by decide) (by decide) (s_mX8_goesWell hS h) (fun r40 I39 J9 h => ?_)
              obtain ⟨rfl, h⟩ := h
              refine V_if_eq 143 dX8_same_114 rfl (fun hc => ?_) (fun hc => ?_)
              · replace h := h.1 hc
                refine V_iconst (v := 0) dX8_same_143 (by decide) ?_
                exact V_zret dX8_same_144 rfl (by decide) (by decide) (by decide) ⟨_, rfl, rfl, h⟩
              · replace h := h.2 hc
                refine V_aload_n dX8_same_117 rfl rfl ?_
                refine V_getr dX8_same_118 fl_RX8_37 (hS.n 51 rfl) (hS.k 51 8 rfl) rfl (hS.r 51 12 61 rfl) ?_
                refine V_iload_n dX8_same_121 rfl rfl ?_
                obtain ⟨hb, h⟩ := h
                refine V_iald dX8_same_122 (hS.n 61 rfl) (hS.k 61 9 rfl) (by rw [(hS.z 61 24 rfl)]; exact hb) ?_
                refine V_aload_n dX8_same_123 rfl rfl ?_
                refine V_getr dX8_same_124 fl_RX8_37 (hS.n 51 rfl) (hS.k 51 8 rfl) rfl (hS.r 51 12 61 rfl) ?_
                refine V_iload_n dX8_same_127 rfl rfl ?_
                obtain ⟨hb, h⟩ := h
                refine V_iald dX8_same_128 (hS.n 61 rfl) (hS.k 61 9 rfl) (by rw [(hS.z 61 24 rfl)]; exact hb) ?_
                refine V_icmp_ne 143 dX8_same_129 rfl (fun hc => ?_) (fun hc => ?_)
                · replace h := h.1 hc
                  refine V_iconst (v := 0) dX8_same_143 (by decide) ?_
                  exact V_zret dX8_same_144 rfl (by decide) (by decide) (by decide) ⟨_, rfl, rfl, h⟩
                · replace h := h.2 hc
                  refine V_iload dX8_same_132 rfl ?_
                  refine V_aload_n dX8_same_134 rfl rfl ?_
                  refine V_getr dX8_same_135 fl_RX8_51 (hS.n 51 rfl) (hS.k 51 8 rfl) rfl (hS.r 51 18 64 rfl) ?_
                  refine V_iload_n dX8_same_138 rfl rfl ?_
                  obtain ⟨hb, h⟩ := h
                  refine V_iald dX8_same_139 (hS.n 64 rfl) (hS.k 64 9 rfl) (by rw [(hS.z 64 24 rfl)]; exact hb) ?_
                  refine V_icmp_eq 145 dX8_same_140 rfl (fun hc => ?_) (fun hc => ?_)
                  · replace h := h.1 hc
                    refine V_aload_n dX8_same_145 rfl rfl ?_
                    refine V_getr dX8_same_146 fl_RX8_65 (hS.n 51 rfl) (hS.k 51 8 rfl) rfl (hS.r 51 22 68 rfl) ?_
                    refine V_iconst (v := 0) dX8_same_149 (by decide) ?_
                    refine V_callSv (st := []) [.ref 68, .int 0] dX8_same_150 ok_mJ7_fill_49daa rfl ml_RX8_166 st_mJ7_fill_49daa (Nat.le_of_ble_eq_true rfl) (by decide) (by decide) (by decide) (s_mJ7_fill (hS.n 68 rfl) (hS.k 68 11 rfl) (hS.z 68 400 rfl) (by decide) h) (fun I41 J9 h => ?_)
                    obtain ⟨rfl, h⟩ := h
                    refine V_iconst (v := 0) dX8_same_153 (by decide) ?_
                    refine V_istore (lo2 := [(5, .int 0), (0, .ref 51), (1, .int a1), (2, .int a2), (4, .int u33)]) dX8_same_154 (by decide) rfl ?_
                    refine V_sub (lo2 := [(0, .ref 51), (2, .int a2), (4, .int u33), (5, .int 0)]) [1, 3, 4, 0] rfl ?_
                    obtain ⟨f9, h⟩ := h
                    refine swX8_same_156 hS f9 _ _ _ _ h
                  · replace h := h.2 hc
                    refine V_iconst (v := 0) dX8_same_143 (by decide) ?_
                    exact V_zret dX8_same_144 rfl (by decide) (by decide) (by decide) ⟨_, rfl, rfl, h⟩
            · replace h := h.2 hc
              refine V_iconst (v := 0) dX8_same_106 (by decide) ?_
              refine V_goto 111 dX8_same_107 rfl ?_
              refine V_callVi (st := []) [.int 0] dX8_same_111 ok_mX8_goesWell rfl ml_RX8_112 in_mX8_goesWell se_mX8_goesWell (hS.n 51 rfl) (hS.k 51 8 rfl) (by decide) rfl (Nat.le_of_ble_eq_true rfl) (by decide) (by decide) (by decide) (s_mX8_goesWell hS h) (fun r43 I42 J9 h => ?_)
              obtain ⟨rfl, h⟩ := h
              refine V_if_eq 143 dX8_same_114 rfl (fun hc => ?_) (fun hc => ?_)
              · replace h := h.1 hc
                refine V_iconst (v := 0) dX8_same_143 (by decide) ?_
                exact V_zret dX8_same_144 rfl (by decide) (by decide) (by decide) ⟨_, rfl, rfl, h⟩
              · replace h := h.2 hc
                refine V_aload_n dX8_same_117 rfl rfl ?_
                refine V_getr dX8_same_118 fl_RX8_37 (hS.n 51 rfl) (hS.k 51 8 rfl) rfl (hS.r 51 12 61 rfl) ?_
                refine V_iload_n dX8_same_121 rfl rfl ?_
                obtain ⟨hb, h⟩ := h
                refine V_iald dX8_same_122 (hS.n 61 rfl) (hS.k 61 9 rfl) (by rw [(hS.z 61 24 rfl)]; exact hb) ?_
                refine V_aload_n dX8_same_123 rfl rfl ?_
                refine V_getr dX8_same_124 fl_RX8_37 (hS.n 51 rfl) (hS.k 51 8 rfl) rfl (hS.r 51 12 61 rfl) ?_
                refine V_iload_n dX8_same_127 rfl rfl ?_
                obtain ⟨hb, h⟩ := h
                refine V_iald dX8_same_128 (hS.n 61 rfl) (hS.k 61 9 rfl) (by rw [(hS.z 61 24 rfl)]; exact hb) ?_
                refine V_icmp_ne 143 dX8_same_129 rfl (fun hc => ?_) (fun hc => ?_)
                · replace h := h.1 hc
                  refine V_iconst (v := 0) dX8_same_143 (by decide) ?_
                  exact V_zret dX8_same_144 rfl (by decide) (by decide) (by decide) ⟨_, rfl, rfl, h⟩
                · replace h := h.2 hc
                  refine V_iload dX8_same_132 rfl ?_
                  refine V_aload_n dX8_same_134 rfl rfl ?_
                  refine V_getr dX8_same_135 fl_RX8_51 (hS.n 51 rfl) (hS.k 51 8 rfl) rfl (hS.r 51 18 64 rfl) ?_
                  refine V_iload_n dX8_same_138 rfl rfl ?_
                  obtain ⟨hb, h⟩ := h
                  refine V_iald dX8_same_139 (hS.n 64 rfl) (hS.k 64 9 rfl) (by rw [(hS.z 64 24 rfl)]; exact hb) ?_
                  refine V_icmp_eq 145 dX8_same_140 rfl (fun hc => ?_) (fun hc => ?_)
                  · replace h := h.1 hc
                    refine V_aload_n dX8_same_145 rfl rfl ?_
                    refine V_getr dX8_same_146 fl_RX8_65 (hS.n 51 rfl) (hS.k 51 8 rfl) rfl (hS.r 51 22 68 rfl) ?_
                    refine V_iconst (v := 0) dX8_same_149 (by decide) ?_
                    refine V_callSv (st := []) [.ref 68, .int 0] dX8_same_150 ok_mJ7_fill_49daa rfl ml_RX8_166 st_mJ7_fill_49daa (Nat.le_of_ble_eq_true rfl) (by decide) (by decide) (by decide) (s_mJ7_fill (hS.n 68 rfl) (hS.k 68 11 rfl) (hS.z 68 400 rfl) (by decide) h) (fun I44 J9 h => ?_)
                    obtain ⟨rfl, h⟩ := h
                    refine V_iconst (v := 0) dX8_same_153 (by decide) ?_
                    refine V_istore (lo2 := [(5, .int 0), (0, .ref 51), (1, .int a1), (2, .int a2), (4, .int u33)]) dX8_same_154 (by decide) rfl ?_
                    refine V_sub (lo2 := [(0, .ref 51), (2, .int a2), (4, .int u33), (5, .int 0)]) [1, 3, 4, 0] rfl ?_
                    obtain ⟨f9, h⟩ := h
                    refine swX8_same_156 hS f9 _ _ _ _ h
                  · replace h := h.2 hc
                    refine V_iconst (v := 0) dX8_same_143 (by decide) ?_
                    exact V_zret dX8_same_144 rfl (by decide) (by decide) (by decide) ⟨_, rfl, rfl, h⟩
        · replace h := h.2 hc
          refine V_iconst (v := 0) dX8_same_50 (by decide) ?_
          exact V_zret dX8_same_51 rfl (by decide) (by decide) (by decide) ⟨_, rfl, rfl, h⟩
    · replace h := h.2 hc
      refine V_iconst (v := 1) dX8_same_16 (by decide) ?_
      refine V_goto 21 dX8_same_17 rfl ?_
      refine V_istore_n (lo2 := [(3, .int 1), (0, .ref 51), (1, .int a1), (2, .int a2)]) dX8_same_21 rfl (by decide) rfl ?_
      refine V_aload_n dX8_same_22 rfl rfl ?_
      refine V_iload_n dX8_same_23 rfl rfl ?_
      refine V_if_ne 31 dX8_same_24 rfl (fun hc => ?_) (fun hc => ?_)
      · refine V_aload_n dX8_same_31 rfl rfl ?_
        refine V_iload_n dX8_same_32 rfl rfl ?_
        refine V_callVi (st := [.ref 51]) [.int a1] dX8_same_33 ok_mX8_work rfl ml_RX8_202 in_mX8_work se_mX8_work (hS.n 51 rfl) (hS.k 51 8 rfl) (by decide) rfl (Nat.le_of_ble_eq_true rfl) (by decide) (by decide) (by decide) (s_mX8_work hS h) (fun r47 I45 J46 h => ?_)
        refine V_if_eq 43 dX8_same_36 rfl (fun hc => ?_) (fun hc => ?_)
        · replace h := h.1 hc
          refine V_iconst (v := 2) dX8_same_43 (by decide) ?_
          refine V_callVi (st := []) [.int 2] dX8_same_44 ok_mX8_goesWell rfl ml_RX8_112 in_mX8_goesWell se_mX8_goesWell (hS.n 51 rfl) (hS.k 51 8 rfl) (by decide) rfl (Nat.le_of_ble_eq_true rfl) (by decide) (by decide) (by decide) (s_mX8_goesWell hS h) (fun r49 I48 J9 h => ?_)
          obtain ⟨rfl, h⟩ := h
          refine V_if_ne 52 dX8_same_47 rfl (fun hc => ?_) (fun hc => ?_)
          · replace h := h.1 hc
            refine V_aload_n dX8_same_52 rfl rfl ?_
            refine V_getr dX8_same_53 fl_RX8_51 (hS.n 51 rfl) (hS.k 51 8 rfl) rfl (hS.r 51 18 64 rfl) ?_
            refine V_iload_n dX8_same_56 rfl rfl ?_
            obtain ⟨hb, h⟩ := h
            refine V_iald dX8_same_57 (hS.n 64 rfl) (hS.k 64 9 rfl) (by rw [(hS.z 64 24 rfl)]; exact hb) ?_
            refine V_topi (fun v50 e_v50 => ?_)
            replace h := h v50 e_v50
            refine V_istore (lo2 := [(4, .int v50), (3, .int 1), (0, .ref 51), (1, .int a1), (2, .int a2)]) dX8_same_58 (by decide) rfl ?_
            refine V_iconst (v := 0) dX8_same_60 (by decide) ?_
            refine V_istore (lo2 := [(5, .int 0), (4, .int v50), (3, .int 1), (0, .ref 51), (1, .int a1), (2, .int a2)]) dX8_same_61 (by decide) rfl ?_
            refine V_sub (lo2 := [(0, .ref 51), (1, .int a1), (2, .int a2), (4, .int v50), (5, .int 0)]) [3, 4, 5, 1, 0] rfl ?_
            obtain ⟨f9, h⟩ := h
            refine swX8_same_63 hS ?_ f9 _ _ _ _ h
            · intro u51 I52 J53 h
              refine V_aload_n dX8_same_97 rfl rfl ?_
              refine V_aload_n dX8_same_98 rfl rfl ?_
              refine V_iload_n dX8_same_99 rfl rfl ?_
              refine V_callVi (st := [.ref 51]) [.int a2] dX8_same_100 ok_mX8_work rfl ml_RX8_202 in_mX8_work se_mX8_work (hS.n 51 rfl) (hS.k 51 8 rfl) (by decide) rfl (Nat.le_of_ble_eq_true rfl) (by decide) (by decide) (by decide) (s_mX8_work hS h) (fun r56 I54 J55 h => ?_)
              refine V_if_eq 110 dX8_same_103 rfl (fun hc => ?_) (fun hc => ?_)
              · replace h := h.1 hc
                refine V_iconst (v := 2) dX8_same_110 (by decide) ?_
                refine V_callVi (st := []) [.int 2] dX8_same_111 ok_mX8_goesWell rfl ml_RX8_112 in_mX8_goesWell se_mX8_goesWell (hS.n 51 rfl) (hS.k 51 8 rfl) (by decide) rfl (Nat.le_of_ble_eq_true rfl) (by decide) (by decide) (by decide) (s_mX8_goesWell hS h) (fun r58 I57 J9 h => ?_)
                obtain ⟨rfl, h⟩ := h
                refine V_if_eq 143 dX8_same_114 rfl (fun hc => ?_) (fun hc => ?_)
                · replace h := h.1 hc
                  refine V_iconst (v := 0) dX8_same_143 (by decide) ?_
                  exact V_zret dX8_same_144 rfl (by decide) (by decide) (by decide) ⟨_, rfl, rfl, h⟩
                · replace h := h.2 hc
                  refine V_aload_n dX8_same_117 rfl rfl ?_
                  refine V_getr dX8_same_118 fl_RX8_37 (hS.n 51 rfl) (hS.k 51 8 rfl) rfl (hS.r 51 12 61 rfl) ?_
                  refine V_iload_n dX8_same_121 rfl rfl ?_
                  obtain ⟨hb, h⟩ := h
                  refine V_iald dX8_same_122 (hS.n 61 rfl) (hS.k 61 9 rfl) (by rw [(hS.z 61 24 rfl)]; exact hb) ?_
                  refine V_aload_n dX8_same_123 rfl rfl ?_
                  refine V_getr dX8_same_124 fl_RX8_37 (hS.n 51 rfl) (hS.k 51 8 rfl) rfl (hS.r 51 12 61 rfl) ?_
                  refine V_iload_n dX8_same_127 rfl rfl ?_
                  obtain ⟨hb, h⟩ := h
                  refine V_iald dX8_same_128 (hS.n 61 rfl) (hS.k 61 9 rfl) (by rw [(hS.z 61 24 rfl)]; exact hb) ?_
                  refine V_icmp_ne 143 dX8_same_129 rfl (fun hc => ?_) (fun hc => ?_)
                  · replace h := h.1 hc
                    refine V_iconst (v := 0) dX8_same_143 (by decide) ?_
                    exact V_zret dX8_same_144 rfl (by decide) (by decide) (by decide) ⟨_, rfl, rfl, h⟩
                  · replace h := h.2 hc
                    refine V_iload dX8_same_132 rfl ?_
                    refine V_aload_n dX8_same_134 rfl rfl ?_
                    refine V_getr dX8_same_135 fl_RX8_51 (hS.n 51 rfl) (hS.k 51 8 rfl) rfl (hS.r 51 18 64 rfl) ?_
                    refine V_iload_n dX8_same_138 rfl rfl ?_
                    obtain ⟨hb, h⟩ := h
                    refine V_iald dX8_same_139 (hS.n 64 rfl) (hS.k 64 9 rfl) (by rw [(hS.z 64 24 rfl)]; exact hb) ?_
                    refine V_icmp_eq 145 dX8_same_140 rfl (fun hc => ?_) (fun hc => ?_)
                    · replace h := h.1 hc
                      refine V_aload_n dX8_same_145 rfl rfl ?_
                      refine V_getr dX8_same_146 fl_RX8_65 (hS.n 51 rfl) (hS.k 51 8 rfl) rfl (hS.r 51 22 68 rfl) ?_
                      refine V_iconst (v := 0) dX8_same_149 (by decide) ?_
                      refine V_callSv (st := []) [.ref 68, .int 0] dX8_same_150 ok_mJ7_fill_49daa rfl ml_RX8_166 st_mJ7_fill_49daa (Nat.le_of_ble_eq_true rfl) (by decide) (by decide) (by decide) (s_mJ7_fill (hS.n 68 rfl) (hS.k 68 11 rfl) (hS.z 68 400 rfl) (by decide) h) (fun I59 J9 h => ?_)
                      obtain ⟨rfl, h⟩ := h
                      refine V_iconst (v := 0) dX8_same_153 (by decide) ?_
                      refine V_istore (lo2 := [(5, .int 0), (0, .ref 51), (1, .int a1), (2, .int a2), (4, .int u51)]) dX8_same_154 (by decide) rfl ?_
                      refine V_sub (lo2 := [(0, .ref 51), (2, .int a2), (4, .int u51), (5, .int 0)]) [1, 3, 4, 0] rfl ?_
                      obtain ⟨f9, h⟩ := h
                      refine swX8_same_156 hS f9 _ _ _ _ h
                    · replace h := h.2 hc
                      refine V_iconst (v := 0) dX8_same_143 (by decide) ?_
                      exact V_zret dX8_same_144 rfl (by decide) (by decide) (by decide) ⟨_, rfl, rfl, h⟩
              · replace h := h.2 hc
                refine V_iconst (v := 0) dX8_same_106 (by decide) ?_
                refine V_goto 111 dX8_same_107 rfl ?_
                refine V_callVi (st := []) [.int 0] dX8_same_111 ok_mX8_goesWell rfl ml_RX8_112 in_mX8_goesWell se_mX8_goesWell (hS.n 51 rfl) (hS.k 51 8 rfl) (by decide) rfl (Nat.le_of_ble_eq_true rfl) (by decide) (by decide) (by decide) (s_mX8_goesWell hS h) (fun r61 I60 J9 h => ?_)
                obtain ⟨rfl, h⟩ := h
                refine V_if_eq 143 dX8_same_114 rfl (fun hc => ?_) (fun hc => ?_)
                · replace h := h.1 hc
                  refine V_iconst (v := 0) dX8_same_143 (by decide) ?_
                  exact V_zret dX8_same_144 rfl (by decide) (by decide) (by decide) ⟨_, rfl, rfl, h⟩
                · replace h := h.2 hc
                  refine V_aload_n dX8_same_117 rfl rfl ?_
                  refine V_getr dX8_same_118 fl_RX8_37 (hS.n 51 rfl) (hS.k 51 8 rfl) rfl (hS.r 51 12 61 rfl) ?_
                  refine V_iload_n dX8_same_121 rfl rfl ?_
                  obtain ⟨hb, h⟩ := h
                  refine V_iald dX8_same_122 (hS.n 61 rfl) (hS.k 61 9 rfl) (by rw [(hS.z 61 24 rfl)]; exact hb) ?_
                  refine V_aload_n dX8_same_123 rfl rfl ?_
                  refine V_getr dX8_same_124 fl_RX8_37 (hS.n 51 rfl) (hS.k 51 8 rfl) rfl (hS.r 51 12 61 rfl) ?_
                  refine V_iload_n dX8_same_127 rfl rfl ?_
                  obtain ⟨hb, h⟩ := h
                  refine V_iald dX8_same_128 (hS.n 61 rfl) (hS.k 61 9 rfl) (by rw [(hS.z 61 24 rfl)]; exact hb) ?_
                  refine V_icmp_ne 143 dX8_same_129 rfl (fun hc => ?_) (fun hc => ?_)
                  · replace h := h.1 hc
                    refine V_iconst (v := 0) dX8_same_143 (by decide) ?_
                    exact V_zret dX8_same_144 rfl (by decide) (by decide) (by decide) ⟨_, rfl, rfl, h⟩
                  · replace h := h.2 hc
                    refine V_iload dX8_same_132 rfl ?_
                    refine V_aload_n dX8_same_134 rfl rfl ?_
                    refine V_getr dX8_same_135 fl_RX8_51 (hS.n 51 rfl) (hS.k 51 8 rfl) rfl (hS.r 51 18 64 rfl) ?_
                    refine V_iload_n dX8_same_138 rfl rfl ?_
                    obtain ⟨hb, h⟩ := h
                    refine V_iald dX8_same_139 (hS.n 64 rfl) (hS.k 64 9 rfl) (by rw [(hS.z 64 24 rfl)]; exact hb) ?_
                    refine V_icmp_eq 145 dX8_same_140 rfl (fun hc => ?_) (fun hc => ?_)
                    · replace h := h.1 hc
                      refine V_aload_n dX8_same_145 rfl rfl ?_
                      refine V_getr dX8_same_146 fl_RX8_65 (hS.n 51 rfl) (hS.k 51 8 rfl) rfl (hS.r 51 22 68 rfl) ?_
                      refine V_iconst (v := 0) dX8_same_149 (by decide) ?_
                      refine V_callSv (st := []) [.ref 68, .int 0] dX8_same_150 ok_mJ7_fill_49daa rfl ml_RX8_166 st_mJ7_fill_49daa (Nat.le_of_ble_eq_true rfl) (by decide) (by decide) (by decide) (s_mJ7_fill (hS.n 68 rfl) (hS.k 68 11 rfl) (hS.z 68 400 rfl) (by decide) h) (fun I62 J9 h => ?_)
                      obtain ⟨rfl, h⟩ := h
                      refine V_iconst (v := 0) dX8_same_153 (by decide) ?_
                      refine V_istore (lo2 := [(5, .int 0), (0, .ref 51), (1, .int a1), (2, .int a2), (4, .int u51)]) dX8_same_154 (by decide) rfl ?_
                      refine V_sub (lo2 := [(0, .ref 51), (2, .int a2), (4, .int u51), (5, .int 0)]) [1, 3, 4, 0] rfl ?_
                      obtain ⟨f9, h⟩ := h
                      refine swX8_same_156 hS f9 _ _ _ _ h
                    · replace h := h.2 hc
                      refine V_iconst (v := 0) dX8_same_143 (by decide) ?_
                      exact V_zret dX8_same_144 rfl (by decide) (by decide) (by decide) ⟨_, rfl, rfl, h⟩
          · replace h := h.2 hc
            refine V_iconst (v := 0) dX8_same_50 (by decide) ?_
            exact V_zret dX8_same_51 rfl (by decide) (by decide) (by decide) ⟨_, rfl, rfl, h⟩
        · replace h := h.2 hc
          refine V_iconst (v := 0) dX8_same_39 (by decide) ?_
          refine V_goto 44 dX8_same_40 rfl ?_
          refine V_callVi (st := []) [.int 0] dX8_same_44 ok_mX8_goesWell rfl ml_RX8_112 in_mX8_goesWell se_mX8_goesWell (hS.n 51 rfl) (hS.k 51 8 rfl) (by decide) rfl (Nat.le_of_ble_eq_true rfl) (by decide) (by decide) (by decide) (s_mX8_goesWell hS h) (fun r64 I63 J9 h => ?_)
          obtain ⟨rfl, h⟩ := h
          refine V_if_ne 52 dX8_same_47 rfl (fun hc => ?_) (fun hc => ?_)
          · replace h := h.1 hc
            refine V_aload_n dX8_same_52 rfl rfl ?_
            refine V_getr dX8_same_53 fl_RX8_51 (hS.n 51 rfl) (hS.k 51 8 rfl) rfl (hS.r 51 18 64 rfl) ?_
            refine V_iload_n dX8_same_56 rfl rfl ?_
            obtain ⟨hb, h⟩ := h
            refine V_iald dX8_same_57 (hS.n 64 rfl) (hS.k 64 9 rfl) (by rw [(hS.z 64 24 rfl)]; exact hb) ?_
            refine V_topi (fun v65 e_v65 => ?_)
            replace h := h v65 e_v65
            refine V_istore (lo2 := [(4, .int v65), (3, .int 1), (0, .ref 51), (1, .int a1), (2, .int a2)]) dX8_same_58 (by decide) rfl ?_
            refine V_iconst (v := 0) dX8_same_60 (by decide) ?_
            refine V_istore (lo2 := [(5, .int 0), (4, .int v65), (3, .int 1), (0, .ref 51), (1, .int a1), (2, .int a2)]) dX8_same_61 (by decide) rfl ?_
            refine V_sub (lo2 := [(0, .ref 51), (1, .int a1), (2, .int a2), (4, .int v65), (5, .int 0)]) [3, 4, 5, 1, 0] rfl ?_
            obtain ⟨f9, h⟩ := h
            refine swX8_same_63 hS ?_ f9 _ _ _ _ h
            · intro u66 I67 J68 h
              refine V_aload_n dX8_same_97 rfl rfl ?_
              refine V_aload_n dX8_same_98 rfl rfl ?_
              refine V_iload_n dX8_same_99 rfl rfl ?_
              refine V_callVi (st := [.ref 51]) [.int a2] dX8_same_100 ok_mX8_work rfl ml_RX8_202 in_mX8_work se_mX8_work (hS.n 51 rfl) (hS.k 51 8 rfl) (by decide) rfl (Nat.le_of_ble_eq_true rfl) (by decide) (by decide) (by decide) (s_mX8_work hS h) (fun r71 I69 J70 h => ?_)
              refine V_if_eq 110 dX8_same_103 rfl (fun hc => ?_) (fun hc => ?_)
              · replace h := h.1 hc
                refine V_iconst (v := 2) dX8_same_110 (by decide) ?_
                refine V_callVi (st := []) [.int 2] dX8_same_111 ok_mX8_goesWell rfl ml_RX8_112 in_mX8_goesWell se_mX8_goesWell (hS.n 51 rfl) (hS.k 51 8 rfl) (by decide) rfl (Nat.le_of_ble_eq_true rfl) (by decide) (by decide) (by decide) (s_mX8_goesWell hS h) (fun r73 I72 J9 h => ?_)
                obtain ⟨rfl, h⟩ := h
                refine V_if_eq 143 dX8_same_114 rfl (fun hc => ?_) (fun hc => ?_)
                · replace h := h.1 hc
                  refine V_iconst (v := 0) dX8_same_143 (by decide) ?_
                  exact V_zret dX8_same_144 rfl (by decide) (by decide) (by decide) ⟨_, rfl, rfl, h⟩
                · replace h := h.2 hc
                  refine V_aload_n dX8_same_117 rfl rfl ?_
                  refine V_getr dX8_same_118 fl_RX8_37 (hS.n 51 rfl) (hS.k 51 8 rfl) rfl (hS.r 51 12 61 rfl) ?_
                  refine V_iload_n dX8_same_121 rfl rfl ?_
                  obtain ⟨hb, h⟩ := h
                  refine V_iald dX8_same_122 (hS.n 61 rfl) (hS.k 61 9 rfl) (by rw [(hS.z 61 24 rfl)]; exact hb) ?_
                  refine V_aload_n dX8_same_123 rfl rfl ?_
                  refine V_getr dX8_same_124 fl_RX8_37 (hS.n 51 rfl) (hS.k 51 8 rfl) rfl (hS.r 51 12 61 rfl) ?_
                  refine V_iload_n dX8_same_127 rfl rfl ?_
                  obtain ⟨hb, h⟩ := h
                  refine V_iald dX8_same_128 (hS.n 61 rfl) (hS.k 61 9 rfl) (by rw [(hS.z 61 24 rfl)]; exact hb) ?_
                  refine V_icmp_ne 143 dX8_same_129 rfl (fun hc => ?_) (fun hc => ?_)
                  · replace h := h.1 hc
                    refine V_iconst (v := 0) dX8_same_143 (by decide) ?_
                    exact V_zret dX8_same_144 rfl (by decide) (by decide) (by decide) ⟨_, rfl, rfl, h⟩
                  · replace h := h.2 hc
                    refine V_iload dX8_same_132 rfl ?_
                    refine V_aload_n dX8_same_134 rfl rfl ?_
                    refine V_getr dX8_same_135 fl_RX8_51 (hS.n 51 rfl) (hS.k 51 8 rfl) rfl (hS.r 51 18 64 rfl) ?_
                    refine V_iload_n dX8_same_138 rfl rfl ?_
                    obtain ⟨hb, h⟩ := h
                    refine V_iald dX8_same_139 (hS.n 64 rfl) (hS.k 64 9 rfl) (by rw [(hS.z 64 24 rfl)]; exact hb) ?_
                    refine V_icmp_eq 145 dX8_same_140 rfl (fun hc => ?_) (fun hc => ?_)
                    · replace h := h.1 hc
                      refine V_aload_n dX8_same_145 rfl rfl ?_
                      refine V_getr dX8_same_146 fl_RX8_65 (hS.n 51 rfl) (hS.k 51 8 rfl) rfl (hS.r 51 22 68 rfl) ?_
                      refine V_iconst (v := 0) dX8_same_149 (by decide) ?_
                      refine V_callSv (st := []) [.ref 68, .int 0] dX8_same_150 ok_mJ7_fill_49daa rfl ml_RX8_166 st_mJ7_fill_49daa (Nat.le_of_ble_eq_true rfl) (by decide) (by decide) (by decide) (s_mJ7_fill (hS.n 68 rfl) (hS.k 68 11 rfl) (hS.z 68 400 rfl) (by decide) h) (fun I74 J9 h => ?_)
                      obtain ⟨rfl, h⟩ := h
                      refine V_iconst (v := 0) dX8_same_153 (by decide) ?_
                      refine V_istore (lo2 := [(5, .int 0), (0, .ref 51), (1, .int a1), (2, .int a2), (4, .int u66)]) dX8_same_154 (by decide) rfl ?_
                      refine V_sub (lo2 := [(0, .ref 51), (2, .int a2), (4, .int u66), (5, .int 0)]) [1, 3, 4, 0] rfl ?_
                      obtain ⟨f9, h⟩ := h
                      refine swX8_same_156 hS f9 _ _ _ _ h
                    · replace h := h.2 hc
                      refine V_iconst (v := 0) dX8_same_143 (by decide) ?_
                      exact V_zret dX8_same_144 rfl (by decide) (by decide) (by decide) ⟨_, rfl, rfl, h⟩
              · replace h := h.2 hc
                refine V_iconst (v := 0) dX8_same_106 (by decide) ?_
                refine V_goto 111 dX8_same_107 rfl ?_
                refine V_callVi (st := []) [.int 0] dX8_same_111 ok_mX8_goesWell rfl ml_RX8_112 in_mX8_goesWell se_mX8_goesWell (hS.n 51 rfl) (hS.k 51 8 rfl) (by decide) rfl (Nat.le_of_ble_eq_true rfl) (by decide) (by decide) (by decide) (s_mX8_goesWell hS h) (fun r76 I75 J9 h => ?_)
                obtain ⟨rfl, h⟩ := h
                refine V_if_eq 143 dX8_same_114 rfl (fun hc => ?_) (fun hc => ?_)
                · replace h := h.1 hc
                  refine V_iconst (v := 0) dX8_same_143 (by decide) ?_
                  exact V_zret dX8_same_144 rfl (by decide) (by decide) (by decide) ⟨_, rfl, rfl, h⟩
                · replace h := h.2 hc
                  refine V_aload_n dX8_same_117 rfl rfl ?_
                  refine V_getr dX8_same_118 fl_RX8_37 (hS.n 51 rfl) (hS.k 51 8 rfl) rfl (hS.r 51 12 61 rfl) ?_
                  refine V_iload_n dX8_same_121 rfl rfl ?_
                  obtain ⟨hb, h⟩ := h
                  refine V_iald dX8_same_122 (hS.n 61 rfl) (hS.k 61 9 rfl) (by rw [(hS.z 61 24 rfl)]; exact hb) ?_
                  refine V_aload_n dX8_same_123 rfl rfl ?_
                  refine V_getr dX8_same_124 fl_RX8_37 (hS.n 51 rfl) (hS.k 51 8 rfl) rfl (hS.r 51 12 61 rfl) ?_
                  refine V_iload_n dX8_same_127 rfl rfl ?_
                  obtain ⟨hb, h⟩ := h
                  refine V_iald dX8_same_128 (hS.n 61 rfl) (hS.k 61 9 rfl) (by rw [(hS.z 61 24 rfl)]; exact hb) ?_
                  refine V_icmp_ne 143 dX8_same_129 rfl (fun hc => ?_) (fun hc => ?_)
                  · replace h := h.1 hc
                    refine V_iconst (v := 0) dX8_same_143 (by decide) ?_
                    exact V_zret dX8_same_144 rfl (by decide) (by decide) (by decide) ⟨_, rfl, rfl, h⟩
                  · replace h := h.2 hc
                    refine V_iload dX8_same_132 rfl ?_
                    refine V_aload_n dX8_same_134 rfl rfl ?_
                    refine V_getr dX8_same_135 fl_RX8_51 (hS.n 51 rfl) (hS.k 51 8 rfl) rfl (hS.r 51 18 64 rfl) ?_
                    refine V_iload_n dX8_same_138 rfl rfl ?_
                    obtain ⟨hb, h⟩ := h
                    refine V_iald dX8_same_139 (hS.n 64 rfl) (hS.k 64 9 rfl) (by rw [(hS.z 64 24 rfl)]; exact hb) ?_
                    refine V_icmp_eq 145 dX8_same_140 rfl (fun hc => ?_) (fun hc => ?_)
                    · replace h := h.1 hc
                      refine V_aload_n dX8_same_145 rfl rfl ?_
                      refine V_getr dX8_same_146 fl_RX8_65 (hS.n 51 rfl) (hS.k 51 8 rfl) rfl (hS.r 51 22 68 rfl) ?_
                      refine V_iconst (v := 0) dX8_same_149 (by decide) ?_
                      refine V_callSv (st := []) [.ref 68, .int 0] dX8_same_150 ok_mJ7_fill_49daa rfl ml_RX8_166 st_mJ7_fill_49daa (Nat.le_of_ble_eq_true rfl) (by decide) (by decide) (by decide) (s_mJ7_fill (hS.n 68 rfl) (hS.k 68 11 rfl) (hS.z 68 400 rfl) (by decide) h) (fun I77 J9 h => ?_)
                      obtain ⟨rfl, h⟩ := h
                      refine V_iconst (v := 0) dX8_same_153 (by decide) ?_
                      refine V_istore (lo2 := [(5, .int 0), (0, .ref 51), (1, .int a1), (2, .int a2), (4, .int u66)]) dX8_same_154 (by decide) rfl ?_
                      refine V_sub (lo2 := [(0, .ref 51), (2, .int a2), (4, .int u66), (5, .int 0)]) [1, 3, 4, 0] rfl ?_
                      obtain ⟨f9, h⟩ := h
                      refine swX8_same_156 hS f9 _ _ _ _ h
                    · replace h := h.2 hc
                      refine V_iconst (v := 0) dX8_same_143 (by decide) ?_
                      exact V_zret dX8_same_144 rfl (by decide) (by decide) (by decide) ⟨_, rfl, rfl, h⟩
          · replace h := h.2 hc
            refine V_iconst (v := 0) dX8_same_50 (by decide) ?_
            exact V_zret dX8_same_51 rfl (by decide) (by decide) (by decide) ⟨_, rfl, rfl, h⟩
      · first | exact absurd hc (by decide) | exact absurd (by decide) hc
def wX8_budget (a1 : Int32) (I : QI) (post : Int32 → QI → Prop) : Prop := (wX8_in a1 1 100000 I (fun r1 => ((r1 = 0 → (wX8_goesWell 1 I (fun r3 I2 => ((¬ r3 = 0 → (∀ v4 : Int32, v4 = (I2 51 13) → (∀ I5 : QI, I5 = q_u2 I2 51 13 a1 → post v4 I5))) ∧ (r3 = 0 → post 0 I2))))) ∧ (¬ r1 = 0 → (wX8_goesWell 0 I (fun r7 I6 => ((¬ r7 = 0 → (∀ v8 : Int32, v8 = (I6 51 13) → (∀ I9 : QI, I9 = q_u2 I6 51 13 a1 → post v8 I9))) ∧ (r7 = 0 → post 0 I6))))))))
set_option maxRecDepth 100000 in
set_option maxHeartbeats 4000000 in
theorem s_mX8_budget {X : QX} {S : QS} {a1 : Int32} {I : QI} {J : QJ} {post : Int32 → QI → Prop} (hS : Sh S) (h : wX8_budget a1 I post) : CX X mX8_budget 1 0 0 [.ref 51, .int a1] S I J (q_Pi S (fun r I2 J2 => J = J2 ∧ post r I2)) := by
  refine CX.of (lo := [(0, .ref 51), (1, .int a1)]) ok_mX8_budget rfl (Nat.le_of_ble_eq_true rfl) rfl ?_
  replace h : (wX8_in a1 1 100000 I (fun r1 => ((r1 = 0 → (wX8_goesWell 1 I (fun r3 I2 => ((¬ r3 = 0 → (∀ v4 : Int32, v4 = (I2 51 13) → (∀ I5 : QI, I5 = q_u2 I2 51 13 a1 → post v4 I5))) ∧ (r3 = 0 → post 0 I2))))) ∧ (¬ r1 = 0 → (wX8_goesWell 0 I (fun r7 I6 => ((¬ r7 = 0 → (∀ v8 : Int32, v8 = (I6 51 13) → (∀ I9 : QI, I9 = q_u2 I6 51 13 a1 → post v8 I9))) ∧ (r7 = 0 → post 0 I6)))))))) := h
  refine V_aload_n dX8_budget_0 rfl rfl ?_
  refine V_iload_n dX8_budget_1 rfl rfl ?_
  refine V_iconst (v := 1) dX8_budget_2 (by decide) ?_
  refine V_ldc dX8_budget_3 co_RX8_40 ?_
  refine V_callSi (st := [.ref 51]) [.int a1, .int 1, .int 100000] dX8_budget_5 ok_mX8_in rfl ml_RX8_104 st_mX8_in (Nat.le_of_ble_eq_true rfl) (by decide) (by decide) (by decide) (s_mX8_in hS h) (fun r1 I9 J9 h => ?_)
  obtain ⟨rfl, rfl, h⟩ := h
  refine V_if_eq 15 dX8_budget_8 rfl (fun hc => ?_) (fun hc => ?_)
  · replace h := h.1 hc
    refine V_iconst (v := 1) dX8_budget_15 (by decide) ?_
    refine V_callVi (st := []) [.int 1] dX8_budget_16 ok_mX8_goesWell rfl ml_RX8_112 in_mX8_goesWell se_mX8_goesWell (hS.n 51 rfl) (hS.k 51 8 rfl) (by decide) rfl (Nat.le_of_ble_eq_true rfl) (by decide) (by decide) (by decide) (s_mX8_goesWell hS h) (fun r3 I2 J9 h => ?_)
    obtain ⟨rfl, h⟩ := h
    refine V_if_ne 24 dX8_budget_19 rfl (fun hc => ?_) (fun hc => ?_)
    · replace h := h.1 hc
      refine V_aload_n dX8_budget_24 rfl rfl ?_
      refine V_geti dX8_budget_25 fl_RX8_41 (hS.n 51 rfl) (hS.k 51 8 rfl) rfl ?_
      refine V_topi (fun v4 e_v4 => ?_)
      replace h := h v4 e_v4
      refine V_istore_n (lo2 := [(2, .int v4), (0, .ref 51), (1, .int a1)]) dX8_budget_28 rfl (by decide) rfl ?_
      refine V_aload_n dX8_budget_29 rfl rfl ?_
      refine V_iload_n dX8_budget_30 rfl rfl ?_
      refine V_puti dX8_budget_31 fl_RX8_41 rfl (hS.n 51 rfl) (hS.k 51 8 rfl) rfl rfl rfl ?_
      refine V_memI (fun I5 e_I5 => ?_)
      replace h := h I5 e_I5
      refine V_iload_n dX8_budget_34 rfl rfl ?_
      exact V_iret dX8_budget_35 rfl (by decide) (by decide) ⟨_, rfl, rfl, rfl, h⟩
    · replace h := h.2 hc
      refine V_iconst (v := 0) dX8_budget_22 (by decide) ?_
      exact V_iret dX8_budget_23 rfl (by decide) (by decide) ⟨_, rfl, rfl, rfl, h⟩
  · replace h := h.2 hc
    refine V_iconst (v := 0) dX8_budget_11 (by decide) ?_
    refine V_goto 16 dX8_budget_12 rfl ?_
    refine V_callVi (st := []) [.int 0] dX8_budget_16 ok_mX8_goesWell rfl ml_RX8_112 in_mX8_goesWell se_mX8_goesWell (hS.n 51 rfl) (hS.k 51 8 rfl) (by decide) rfl (Nat.le_of_ble_eq_true rfl) (by decide) (by decide) (by decide) (s_mX8_goesWell hS h) (fun r7 I6 J9 h => ?_)
    obtain ⟨rfl, h⟩ := h
    refine V_if_ne 24 dX8_budget_19 rfl (fun hc => ?_) (fun hc => ?_)
    · replace h := h.1 hc
      refine V_aload_n dX8_budget_24 rfl rfl ?_
      refine V_geti dX8_budget_25 fl_RX8_41 (hS.n 51 rfl) (hS.k 51 8 rfl) rfl ?_
      refine V_topi (fun v8 e_v8 => ?_)
      replace h := h v8 e_v8
      refine V_istore_n (lo2 := [(2, .int v8), (0, .ref 51), (1, .int a1)]) dX8_budget_28 rfl (by decide) rfl ?_
      refine V_aload_n dX8_budget_29 rfl rfl ?_
      refine V_iload_n dX8_budget_30 rfl rfl ?_
      refine V_puti dX8_budget_31 fl_RX8_41 rfl (hS.n 51 rfl) (hS.k 51 8 rfl) rfl rfl rfl ?_
      refine V_memI (fun I9 e_I9 => ?_)
      replace h := h I9 e_I9
      refine V_iload_n dX8_budget_34 rfl rfl ?_
      exact V_iret dX8_budget_35 rfl (by decide) (by decide) ⟨_, rfl, rfl, rfl, h⟩
    · replace h := h.2 hc
      refine V_iconst (v := 0) dX8_budget_22 (by decide) ?_
      exact V_iret dX8_budget_23 rfl (by decide) (by decide) ⟨_, rfl, rfl, rfl, h⟩
def wX8_node (a1 : Int32) (a2 : Int32) (I : QI) (post : Int32 → QI → Prop) : Prop := (wX8_isNode a1 I (fun r1 => ((¬ r1 = 0 → (wX8_in a2 0 3 I (fun r2 => ((r2 = 0 → (wX8_goesWell 2 I (fun r4 I3 => ((¬ r4 = 0 → ((¬ a2 = 0 → ((¬ a2 = 1 → ((¬ a2 = 2 → (vp_in a1 24 ∧ post (I3 61 (a1).toNatClampNeg) I3)) ∧ (a2 = 2 → (vp_in a1 24 ∧ post (I3 57 (a1).toNatClampNeg) I3)))) ∧ (a2 = 1 → (vp_in a1 24 ∧ post (I3 56 (a1).toNatClampNeg) I3)))) ∧ (a2 = 0 → (vp_in a1 24 ∧ post (I3 55 (a1).toNatClampNeg) I3)))) ∧ (r4 = 0 → post 0 I3))))) ∧ (¬ r2 = 0 → (wX8_goesWell 0 I (fun r6 I5 => ((¬ r6 = 0 → ((¬ a2 = 0 → ((¬ a2 = 1 → ((¬ a2 = 2 → (vp_in a1 24 ∧ post (I5 61 (a1).toNatClampNeg) I5)) ∧ (a2 = 2 → (vp_in a1 24 ∧ post (I5 57 (a1).toNatClampNeg) I5)))) ∧ (a2 = 1 → (vp_in a1 24 ∧ post (I5 56 (a1).toNatClampNeg) I5)))) ∧ (a2 = 0 → (vp_in a1 24 ∧ post (I5 55 (a1).toNatClampNeg) I5)))) ∧ (r6 = 0 → post 0 I5))))))))) ∧ (r1 = 0 → (wX8_goesWell 1 I (fun r8 I7 => ((¬ r8 = 0 → ((¬ a2 = 0 → ((¬ a2 = 1 → ((¬ a2 = 2 → (vp_in a1 24 ∧ post (I7 61 (a1).toNatClampNeg) I7)) ∧ (a2 = 2 → (vp_in a1 24 ∧ post (I7 57 (a1).toNatClampNeg) I7)))) ∧ (a2 = 1 → (vp_in a1 24 ∧ post (I7 56 (a1).toNatClampNeg) I7)))) ∧ (a2 = 0 → (vp_in a1 24 ∧ post (I7 55 (a1).toNatClampNeg) I7)))) ∧ (r8 = 0 → post 0 I7))))))))
set_option maxRecDepth 100000 in
set_option maxHeartbeats 4000000 in
theorem s_mX8_node {X : QX} {S : QS} {a1 : Int32} {a2 : Int32} {I : QI} {J : QJ} {post : Int32 → QI → Prop} (hS : Sh S) (h : wX8_node a1 a2 I post) : CX X mX8_node 2 0 0 [.ref 51, .int a1, .int a2] S I J (q_Pi S (fun r I2 J2 => J = J2 ∧ post r I2)) := by
  refine CX.of (lo := [(0, .ref 51), (1, .int a1), (2, .int a2)]) ok_mX8_node rfl (Nat.le_of_ble_eq_true rfl) rfl ?_
  replace h : (wX8_isNode a1 I (fun r1 => ((¬ r1 = 0 → (wX8_in a2 0 3 I (fun r2 => ((r2 = 0 → (wX8_goesWell 2 I (fun r4 I3 => ((¬ r4 = 0 → ((¬ a2 = 0 → ((¬ a2 = 1 → ((¬ a2 = 2 → (vp_in a1 24 ∧ post (I3 61 (a1).toNatClampNeg) I3)) ∧ (a2 = 2 → (vp_in a1 24 ∧ post (I3 57 (a1).toNatClampNeg) I3)))) ∧ (a2 = 1 → (vp_in a1 24 ∧ post (I3 56 (a1).toNatClampNeg) I3)))) ∧ (a2 = 0 → (vp_in a1 24 ∧ post (I3 55 (a1).toNatClampNeg) I3)))) ∧ (r4 = 0 → post 0 I3))))) ∧ (¬ r2 = 0 → (wX8_goesWell 0 I (fun r6 I5 => ((¬ r6 = 0 → ((¬ a2 = 0 → ((¬ a2 = 1 → ((¬ a2 = 2 → (vp_in a1 24 ∧ post (I5 61 (a1).toNatClampNeg) I5)) ∧ (a2 = 2 → (vp_in a1 24 ∧ post (I5 57 (a1).toNatClampNeg) I5)))) ∧ (a2 = 1 → (vp_in a1 24 ∧ post (I5 56 (a1).toNatClampNeg) I5)))) ∧ (a2 = 0 → (vp_in a1 24 ∧ post (I5 55 (a1).toNatClampNeg) I5)))) ∧ (r6 = 0 → post 0 I5))))))))) ∧ (r1 = 0 → (wX8_goesWell 1 I (fun r8 I7 => ((¬ r8 = 0 → ((¬ a2 = 0 → ((¬ a2 = 1 → ((¬ a2 = 2 → (vp_in a1 24 ∧ post (I7 61 (a1).toNatClampNeg) I7)) ∧ (a2 = 2 → (vp_in a1 24 ∧ post (I7 57 (a1).toNatClampNeg) I7)))) ∧ (a2 = 1 → (vp_in a1 24 ∧ post (I7 56 (a1).toNatClampNeg) I7)))) ∧ (a2 = 0 → (vp_in a1 24 ∧ post (I7 55 (a1).toNatClampNeg) I7)))) ∧ (r8 = 0 → post 0 I7)))))))) := h
  refine V_aload_n dX8_node_0 rfl rfl ?_
  refine V_iload_n dX8_node_1 rfl rfl ?_
  refine V_callVi (st := []) [.int a1] dX8_node_2 ok_mX8_isNode rfl ml_RX8_121 in_mX8_isNode se_mX8_isNode (hS.n 51 rfl) (hS.k 51 8 rfl) (by decide) rfl (Nat.le_of_ble_eq_true rfl) (by decide) (by decide) (by decide) (s_mX8_isNode hS h) (fun r1 I9 J9 h => ?_)
  obtain ⟨rfl, rfl, h⟩ := h
  refine V_istore_n (lo2 := [(3, .int r1), (0, .ref 51), (1, .int a1), (2, .int a2)]) dX8_node_5 rfl (by decide) rfl ?_
  refine V_aload_n dX8_node_6 rfl rfl ?_
  refine V_iload_n dX8_node_7 rfl rfl ?_
  refine V_if_ne 15 dX8_node_8 rfl (fun hc => ?_) (fun hc => ?_)
  · replace h := h.1 hc
    refine V_iload_n dX8_node_15 rfl rfl ?_
    refine V_iconst (v := 0) dX8_node_16 (by decide) ?_
    refine V_iconst (v := 3) dX8_node_17 (by decide) ?_
    refine V_callSi (st := [.ref 51]) [.int a2, .int 0, .int 3] dX8_node_18 ok_mX8_in rfl ml_RX8_104 st_mX8_in (Nat.le_of_ble_eq_true rfl) (by decide) (by decide) (by decide) (s_mX8_in hS h) (fun r2 I9 J9 h => ?_)
    obtain ⟨rfl, rfl, h⟩ := h
    refine V_if_eq 28 dX8_node_21 rfl (fun hc => ?_) (fun hc => ?_)
    · replace h := h.1 hc
      refine V_iconst (v := 2) dX8_node_28 (by decide) ?_
      refine V_callVi (st := []) [.int 2] dX8_node_29 ok_mX8_goesWell rfl ml_RX8_112 in_mX8_goesWell se_mX8_goesWell (hS.n 51 rfl) (hS.k 51 8 rfl) (by decide) rfl (Nat.le_of_ble_eq_true rfl) (by decide) (by decide) (by decide) (s_mX8_goesWell hS h) (fun r4 I3 J9 h => ?_)
      obtain ⟨rfl, h⟩ := h
      refine V_if_ne 37 dX8_node_32 rfl (fun hc => ?_) (fun hc => ?_)
      · replace h := h.1 hc
        refine V_iload_n dX8_node_37 rfl rfl ?_
        refine V_if_ne 50 dX8_node_38 rfl (fun hc => ?_) (fun hc => ?_)
        · replace h := h.1 hc
          refine V_iload_n dX8_node_50 rfl rfl ?_
          refine V_iconst (v := 1) dX8_node_51 (by decide) ?_
          refine V_icmp_ne 64 dX8_node_52 rfl (fun hc => ?_) (fun hc => ?_)
          · replace h := h.1 hc
            refine V_iload_n dX8_node_64 rfl rfl ?_
            refine V_iconst (v := 2) dX8_node_65 (by decide) ?_
            refine V_icmp_ne 78 dX8_node_66 rfl (fun hc => ?_) (fun hc => ?_)
            · replace h := h.1 hc
              refine V_aload_n dX8_node_78 rfl rfl ?_
              refine V_getr dX8_node_79 fl_RX8_37 (hS.n 51 rfl) (hS.k 51 8 rfl) rfl (hS.r 51 12 61 rfl) ?_
              refine V_iload_n dX8_node_82 rfl rfl ?_
              obtain ⟨hb, h⟩ := h
              refine V_iald dX8_node_83 (hS.n 61 rfl) (hS.k 61 9 rfl) (by rw [(hS.z 61 24 rfl)]; exact hb) ?_
              exact V_iret dX8_node_84 rfl (by decide) (by decide) ⟨_, rfl, rfl, rfl, h⟩
            · replace h := h.2 hc
              refine V_aload_n dX8_node_69 rfl rfl ?_
              refine V_getr dX8_node_70 fl_RX8_25 (hS.n 51 rfl) (hS.k 51 8 rfl) rfl (hS.r 51 8 57 rfl) ?_
              refine V_iload_n dX8_node_73 rfl rfl ?_
              obtain ⟨hb, h⟩ := h
              refine V_iald dX8_node_74 (hS.n 57 rfl) (hS.k 57 9 rfl) (by rw [(hS.z 57 24 rfl)]; exact hb) ?_
              refine V_goto 84 dX8_node_75 rfl ?_
              exact V_iret dX8_node_84 rfl (by decide) (by decide) ⟨_, rfl, rfl, rfl, h⟩
          · replace h := h.2 hc
            refine V_aload_n dX8_node_55 rfl rfl ?_
            refine V_getr dX8_node_56 fl_RX8_22 (hS.n 51 rfl) (hS.k 51 8 rfl) rfl (hS.r 51 7 56 rfl) ?_
            refine V_iload_n dX8_node_59 rfl rfl ?_
            obtain ⟨hb, h⟩ := h
            refine V_iald dX8_node_60 (hS.n 56 rfl) (hS.k 56 9 rfl) (by rw [(hS.z 56 24 rfl)]; exact hb) ?_
            refine V_goto 84 dX8_node_61 rfl ?_
            exact V_iret dX8_node_84 rfl (by decide) (by decide) ⟨_, rfl, rfl, rfl, h⟩
        · replace h := h.2 hc
          refine V_aload_n dX8_node_41 rfl rfl ?_
          refine V_getr dX8_node_42 fl_RX8_19 (hS.n 51 rfl) (hS.k 51 8 rfl) rfl (hS.r 51 6 55 rfl) ?_
          refine V_iload_n dX8_node_45 rfl rfl ?_
          obtain ⟨hb, h⟩ := h
          refine V_iald dX8_node_46 (hS.n 55 rfl) (hS.k 55 9 rfl) (by rw [(hS.z 55 24 rfl)]; exact hb) ?_
          refine V_goto 84 dX8_node_47 rfl ?_
          exact V_iret dX8_node_84 rfl (by decide) (by decide) ⟨_, rfl, rfl, rfl, h⟩
      · replace h := h.2 hc
        refine V_iconst (v := 0) dX8_node_35 (by decide) ?_
        exact V_iret dX8_node_36 rfl (by decide) (by decide) ⟨_, rfl, rfl, rfl, h⟩
    · replace h := h.2 hc
      refine V_iconst (v := 0) dX8_node_24 (by decide) ?_
      refine V_goto 29 dX8_node_25 rfl ?_
      refine V_callVi (st := []) [.int 0] dX8_node_29 ok_mX8_goesWell rfl ml_RX8_112 in_mX8_goesWell se_mX8_goesWell (hS.n 51 rfl) (hS.k 51 8 rfl) (by decide) rfl (Nat.le_of_ble_eq_true rfl) (by decide) (by decide) (by decide) (s_mX8_goesWell hS h) (fun r6 I5 J9 h => ?_)
      obtain ⟨rfl, h⟩ := h
      refine V_if_ne 37 dX8_node_32 rfl (fun hc => ?_) (fun hc => ?_)
      · replace h := h.1 hc
        refine V_iload_n dX8_node_37 rfl rfl ?_
        refine V_if_ne 50 dX8_node_38 rfl (fun hc => ?_) (fun hc => ?_)
        · replace h := h.1 hc
          refine V_iload_n dX8_node_50 rfl rfl ?_
          refine V_iconst (v := 1) dX8_node_51 (by decide) ?_
          refine V_icmp_ne 64 dX8_node_52 rfl (fun hc => ?_) (fun hc => ?_)
          · replace h := h.1 hc
            refine V_iload_n dX8_node_64 rfl rfl ?_
            refine V_iconst (v := 2) dX8_node_65 (by decide) ?_
            refine V_icmp_ne 78 dX8_node_66 rfl (fun hc => ?_) (fun hc => ?_)
            · replace h := h.1 hc
              refine V_aload_n dX8_node_78 rfl rfl ?_
              refine V_getr dX8_node_79 fl_RX8_37 (hS.n 51 rfl) (hS.k 51 8 rfl) rfl (hS.r 51 12 61 rfl) ?_
              refine V_iload_n dX8_node_82 rfl rfl ?_
              obtain ⟨hb, h⟩ := h
              refine V_iald dX8_node_83 (hS.n 61 rfl) (hS.k 61 9 rfl) (by rw [(hS.z 61 24 rfl)]; exact hb) ?_
              exact V_iret dX8_node_84 rfl (by decide) (by decide) ⟨_, rfl, rfl, rfl, h⟩
            · replace h := h.2 hc
              refine V_aload_n dX8_node_69 rfl rfl ?_
              refine V_getr dX8_node_70 fl_RX8_25 (hS.n 51 rfl) (hS.k 51 8 rfl) rfl (hS.r 51 8 57 rfl) ?_
              refine V_iload_n dX8_node_73 rfl rfl ?_
              obtain ⟨hb, h⟩ := h
              refine V_iald dX8_node_74 (hS.n 57 rfl) (hS.k 57 9 rfl) (by rw [(hS.z 57 24 rfl)]; exact hb) ?_
              refine V_goto 84 dX8_node_75 rfl ?_
              exact V_iret dX8_node_84 rfl (by decide) (by decide) ⟨_, rfl, rfl, rfl, h⟩
          · replace h := h.2 hc
            refine V_aload_n dX8_node_55 rfl rfl ?_
            refine V_getr dX8_node_56 fl_RX8_22 (hS.n 51 rfl) (hS.k 51 8 rfl) rfl (hS.r 51 7 56 rfl) ?_
            refine V_iload_n dX8_node_59 rfl rfl ?_
            obtain ⟨hb, h⟩ := h
            refine V_iald dX8_node_60 (hS.n 56 rfl) (hS.k 56 9 rfl) (by rw [(hS.z 56 24 rfl)]; exact hb) ?_
            refine V_goto 84 dX8_node_61 rfl ?_
            exact V_iret dX8_node_84 rfl (by decide) (by decide) ⟨_, rfl, rfl, rfl, h⟩
        · replace h := h.2 hc
          refine V_aload_n dX8_node_41 rfl rfl ?_
          refine V_getr dX8_node_42 fl_RX8_19 (hS.n 51 rfl) (hS.k 51 8 rfl) rfl (hS.r 51 6 55 rfl) ?_
          refine V_iload_n dX8_node_45 rfl rfl ?_
          obtain ⟨hb, h⟩ := h
          refine V_iald dX8_node_46 (hS.n 55 rfl) (hS.k 55 9 rfl) (by rw [(hS.z 55 24 rfl)]; exact hb) ?_
          refine V_goto 84 dX8_node_47 rfl ?_
          exact V_iret dX8_node_84 rfl (by decide) (by decide) ⟨_, rfl, rfl, rfl, h⟩
      · replace h := h.2 hc
        refine V_iconst (v := 0) dX8_node_35 (by decide) ?_
        exact V_iret dX8_node_36 rfl (by decide) (by decide) ⟨_, rfl, rfl, rfl, h⟩
  · replace h := h.2 hc
    refine V_iconst (v := 1) dX8_node_11 (by decide) ?_
    refine V_goto 29 dX8_node_12 rfl ?_
    refine V_callVi (st := []) [.int 1] dX8_node_29 ok_mX8_goesWell rfl ml_RX8_112 in_mX8_goesWell se_mX8_goesWell (hS.n 51 rfl) (hS.k 51 8 rfl) (by decide) rfl (Nat.le_of_ble_eq_true rfl) (by decide) (by decide) (by decide) (s_mX8_goesWell hS h) (fun r8 I7 J9 h => ?_)
    obtain ⟨rfl, h⟩ := h
    refine V_if_ne 37 dX8_node_32 rfl (fun hc => ?_) (fun hc => ?_)
    · replace h := h.1 hc
      refine V_iload_n dX8_node_37 rfl rfl ?_
      refine V_if_ne 50 dX8_node_38 rfl (fun hc => ?_) (fun hc => ?_)
      · replace h := h.1 hc
        refine V_iload_n dX8_node_50 rfl rfl ?_
        refine V_iconst (v := 1) dX8_node_51 (by decide) ?_
        refine V_icmp_ne 64 dX8_node_52 rfl (fun hc => ?_) (fun hc => ?_)
        · replace h := h.1 hc
          refine V_iload_n dX8_node_64 rfl rfl ?_
          refine V_iconst (v := 2) dX8_node_65 (by decide) ?_
          refine V_icmp_ne 78 dX8_node_66 rfl (fun hc => ?_) (fun hc => ?_)
          · replace h := h.1 hc
            refine V_aload_n dX8_node_78 rfl rfl ?_
            refine V_getr dX8_node_79 fl_RX8_37 (hS.n 51 rfl) (hS.k 51 8 rfl) rfl (hS.r 51 12 61 rfl) ?_
            refine V_iload_n dX8_node_82 rfl rfl ?_
            obtain ⟨hb, h⟩ := h
            refine V_iald dX8_node_83 (hS.n 61 rfl) (hS.k 61 9 rfl) (by rw [(hS.z 61 24 rfl)]; exact hb) ?_
            exact V_iret dX8_node_84 rfl (by decide) (by decide) ⟨_, rfl, rfl, rfl, h⟩
          · replace h := h.2 hc
            refine V_aload_n dX8_node_69 rfl rfl ?_
            refine V_getr dX8_node_70 fl_RX8_25 (hS.n 51 rfl) (hS.k 51 8 rfl) rfl (hS.r 51 8 57 rfl) ?_
            refine V_iload_n dX8_node_73 rfl rfl ?_
            obtain ⟨hb, h⟩ := h
            refine V_iald dX8_node_74 (hS.n 57 rfl) (hS.k 57 9 rfl) (by rw [(hS.z 57 24 rfl)]; exact hb) ?_
            refine V_goto 84 dX8_node_75 rfl ?_
            exact V_iret dX8_node_84 rfl (by decide) (by decide) ⟨_, rfl, rfl, rfl, h⟩
        · replace h := h.2 hc
          refine V_aload_n dX8_node_55 rfl rfl ?_
          refine V_getr dX8_node_56 fl_RX8_22 (hS.n 51 rfl) (hS.k 51 8 rfl) rfl (hS.r 51 7 56 rfl) ?_
          refine V_iload_n dX8_node_59 rfl rfl ?_
          obtain ⟨hb, h⟩ := h
          refine V_iald dX8_node_60 (hS.n 56 rfl) (hS.k 56 9 rfl) (by rw [(hS.z 56 24 rfl)]; exact hb) ?_
          refine V_goto 84 dX8_node_61 rfl ?_
          exact V_iret dX8_node_84 rfl (by decide) (by decide) ⟨_, rfl, rfl, rfl, h⟩
      · replace h := h.2 hc
        refine V_aload_n dX8_node_41 rfl rfl ?_
        refine V_getr dX8_node_42 fl_RX8_19 (hS.n 51 rfl) (hS.k 51 8 rfl) rfl (hS.r 51 6 55 rfl) ?_
        refine V_iload_n dX8_node_45 rfl rfl ?_
        obtain ⟨hb, h⟩ := h
        refine V_iald dX8_node_46 (hS.n 55 rfl) (hS.k 55 9 rfl) (by rw [(hS.z 55 24 rfl)]; exact hb) ?_
        refine V_goto 84 dX8_node_47 rfl ?_
        exact V_iret dX8_node_84 rfl (by decide) (by decide) ⟨_, rfl, rfl, rfl, h⟩
    · replace h := h.2 hc
      refine V_iconst (v := 0) dX8_node_35 (by decide) ?_
      exact V_iret dX8_node_36 rfl (by decide) (by decide) ⟨_, rfl, rfl, rfl, h⟩
def wX8_isOfSecond (a1 : Int32) (a2 : Int32) (I : QI) (post : Int32 → Prop) : Prop := (vp_in a1 24 ∧ (vp_in (I 56 (a1).toNatClampNeg) 24 ∧ (((a2 / 1200) < (I 61 ((I 56 (a1).toNatClampNeg)).toNatClampNeg) → post 0) ∧ (¬ (a2 / 1200) < (I 61 ((I 56 (a1).toNatClampNeg)).toNatClampNeg) → post 1))))
set_option maxRecDepth 100000 in
set_option maxHeartbeats 4000000 in
theorem s_mX8_isOfSecond {X : QX} {S : QS} {a1 : Int32} {a2 : Int32} {I : QI} {J : QJ} {post : Int32 → Prop} (hS : Sh S) (h : wX8_isOfSecond a1 a2 I post) : CX X mX8_isOfSecond 0 0 0 [.ref 51, .int a1, .int a2] S I J (q_Pi S (fun r I2 J2 => I = I2 ∧ J = J2 ∧ post r)) := by
  refine CX.of (lo := [(0, .ref 51), (1, .int a1), (2, .int a2)]) ok_mX8_isOfSecond rfl (Nat.le_of_ble_eq_true rfl) rfl ?_
  replace h : (vp_in a1 24 ∧ (vp_in (I 56 (a1).toNatClampNeg) 24 ∧ (((a2 / 1200) < (I 61 ((I 56 (a1).toNatClampNeg)).toNatClampNeg) → post 0) ∧ (¬ (a2 / 1200) < (I 61 ((I 56 (a1).toNatClampNeg)).toNatClampNeg) → post 1)))) := h
  refine V_iload_n dX8_isOfSecond_0 rfl rfl ?_
  refine V_sipush (v := 1200) dX8_isOfSecond_1 (by decide) ?_
  refine V_idiv dX8_isOfSecond_4 (by decide) ?_
  refine V_aload_n dX8_isOfSecond_5 rfl rfl ?_
  refine V_getr dX8_isOfSecond_6 fl_RX8_37 (hS.n 51 rfl) (hS.k 51 8 rfl) rfl (hS.r 51 12 61 rfl) ?_
  refine V_aload_n dX8_isOfSecond_9 rfl rfl ?_
  refine V_getr dX8_isOfSecond_10 fl_RX8_22 (hS.n 51 rfl) (hS.k 51 8 rfl) rfl (hS.r 51 7 56 rfl) ?_
  refine V_iload_n dX8_isOfSecond_13 rfl rfl ?_
  obtain ⟨hb, h⟩ := h
  refine V_iald dX8_isOfSecond_14 (hS.n 56 rfl) (hS.k 56 9 rfl) (by rw [(hS.z 56 24 rfl)]; exact hb) ?_
  obtain ⟨hb, h⟩ := h
  refine V_iald dX8_isOfSecond_15 (hS.n 61 rfl) (hS.k 61 9 rfl) (by rw [(hS.z 61 24 rfl)]; exact hb) ?_
  refine V_icmp_lt 23 dX8_isOfSecond_16 rfl (fun hc => ?_) (fun hc => ?_)
  · replace h := h.1 hc
    refine V_iconst (v := 0) dX8_isOfSecond_23 (by decide) ?_
    exact V_zret dX8_isOfSecond_24 rfl (by decide) (by decide) (by decide) ⟨_, rfl, rfl, rfl, rfl, h⟩
  · replace h := h.2 hc
    refine V_iconst (v := 1) dX8_isOfSecond_19 (by decide) ?_
    refine V_goto 24 dX8_isOfSecond_20 rfl ?_
    exact V_zret dX8_isOfSecond_24 rfl (by decide) (by decide) (by decide) ⟨_, rfl, rfl, rfl, rfl, h⟩
def wX8_sticks (a1 : Int32) (a2 : Int32) (a3 : Int32) (I : QI) (post : Int32 → Prop) : Prop := (vp_in a1 24 ∧ ((¬ (I 60 (a1).toNatClampNeg) = 1 → post 0) ∧ ((I 60 (a1).toNatClampNeg) = 1 → (wX8_isOfSecond a1 a2 I (fun r1 => ((¬ r1 = 0 → post 1) ∧ (r1 = 0 → ((a3 < a2 → post 0) ∧ (¬ a3 < a2 → post 1)))))))))
set_option maxRecDepth 100000 in
set_option maxHeartbeats 4000000 in
theorem s_mX8_sticks {X : QX} {S : QS} {a1 : Int32} {a2 : Int32} {a3 : Int32} {I : QI} {J : QJ} {post : Int32 → Prop} (hS : Sh S) (h : wX8_sticks a1 a2 a3 I post) : CX X mX8_sticks 1 0 0 [.ref 51, .int a1, .int a2, .int a3] S I J (q_Pi S (fun r I2 J2 => I = I2 ∧ J = J2 ∧ post r)) := by
  refine CX.of (lo := [(0, .ref 51), (1, .int a1), (2, .int a2), (3, .int a3)]) ok_mX8_sticks rfl (Nat.le_of_ble_eq_true rfl) rfl ?_
  replace h : (vp_in a1 24 ∧ ((¬ (I 60 (a1).toNatClampNeg) = 1 → post 0) ∧ ((I 60 (a1).toNatClampNeg) = 1 → (wX8_isOfSecond a1 a2 I (fun r1 => ((¬ r1 = 0 → post 1) ∧ (r1 = 0 → ((a3 < a2 → post 0) ∧ (¬ a3 < a2 → post 1))))))))) := h
  refine V_aload_n dX8_sticks_0 rfl rfl ?_
  refine V_getr dX8_sticks_1 fl_RX8_34 (hS.n 51 rfl) (hS.k 51 8 rfl) rfl (hS.r 51 11 60 rfl) ?_
  refine V_iload_n dX8_sticks_4 rfl rfl ?_
  obtain ⟨hb, h⟩ := h
  refine V_iald dX8_sticks_5 (hS.n 60 rfl) (hS.k 60 9 rfl) (by rw [(hS.z 60 24 rfl)]; exact hb) ?_
  refine V_iconst (v := 1) dX8_sticks_6 (by decide) ?_
  refine V_icmp_ne 28 dX8_sticks_7 rfl (fun hc => ?_) (fun hc => ?_)
  · replace h := h.1 hc
    refine V_iconst (v := 0) dX8_sticks_28 (by decide) ?_
    exact V_zret dX8_sticks_29 rfl (by decide) (by decide) (by decide) ⟨_, rfl, rfl, rfl, rfl, h⟩
  · replace h := h.2 hc
    refine V_aload_n dX8_sticks_10 rfl rfl ?_
    refine V_iload_n dX8_sticks_11 rfl rfl ?_
    refine V_iload_n dX8_sticks_12 rfl rfl ?_
    refine V_callVi (st := []) [.int a1, .int a2] dX8_sticks_13 ok_mX8_isOfSecond rfl ml_RX8_215 in_mX8_isOfSecond se_mX8_isOfSecond (hS.n 51 rfl) (hS.k 51 8 rfl) (by decide) rfl (Nat.le_of_ble_eq_true rfl) (by decide) (by decide) (by decide) (s_mX8_isOfSecond hS h) (fun r1 I9 J9 h => ?_)
    obtain ⟨rfl, rfl, h⟩ := h
    refine V_if_ne 24 dX8_sticks_16 rfl (fun hc => ?_) (fun hc => ?_)
    · replace h := h.1 hc
      refine V_iconst (v := 1) dX8_sticks_24 (by decide) ?_
      refine V_goto 29 dX8_sticks_25 rfl ?_
      exact V_zret dX8_sticks_29 rfl (by decide) (by decide) (by decide) ⟨_, rfl, rfl, rfl, rfl, h⟩
    · replace h := h.2 hc
      refine V_iload_n dX8_sticks_19 rfl rfl ?_
      refine V_iload_n dX8_sticks_20 rfl rfl ?_
      refine V_icmp_gt 28 dX8_sticks_21 rfl (fun hc => ?_) (fun hc => ?_)
      · replace h := h.1 hc
        refine V_iconst (v := 0) dX8_sticks_28 (by decide) ?_
        exact V_zret dX8_sticks_29 rfl (by decide) (by decide) (by decide) ⟨_, rfl, rfl, rfl, rfl, h⟩
      · replace h := h.2 hc
        refine V_iconst (v := 1) dX8_sticks_24 (by decide) ?_
        refine V_goto 29 dX8_sticks_25 rfl ?_
        exact V_zret dX8_sticks_29 rfl (by decide) (by decide) (by decide) ⟨_, rfl, rfl, rfl, rfl, h⟩
def wX8_place (a1 : Int32) (a2 : Int32) (a3 : Int32) (a4 : Int32) (a5 : Int32) (a6 : Int32) (I : QI) (post : Int32 → QI → Prop) : Prop := (((I 51 32) = 0 → (wX8_find a1 a2 a3 a4 a5 a6 I (fun r1 => ((¬ (I 51 32) = 0 → (∀ I2 : QI, I2 = q_u2 I 51 32 1 → ((¬ (I2 51 32) = 0 → post r1 I2) ∧ ((I2 51 32) = 0 → ((r1 = (-1) → (wX8_lay (I2 51 5) a1 a2 a3 a4 a5 a6 I2 (fun I3 => (∀ I4 : QI, I4 = q_u2 I3 51 5 ((I3 51 5) + 1) → post ((I4 51 5) - 1) I4)))) ∧ (¬ r1 = (-1) → post r1 I2)))))) ∧ ((I 51 32) = 0 → ((¬ r1 = (-1) → (∀ I5 : QI, I5 = q_u2 I 51 32 0 → ((¬ (I5 51 32) = 0 → post r1 I5) ∧ ((I5 51 32) = 0 → ((r1 = (-1) → (wX8_lay (I5 51 5) a1 a2 a3 a4 a5 a6 I5 (fun I6 => (∀ I7 : QI, I7 = q_u2 I6 51 5 ((I6 51 5) + 1) → post ((I7 51 5) - 1) I7)))) ∧ (¬ r1 = (-1) → post r1 I5)))))) ∧ (r1 = (-1) → ((¬ (I 51 5) = 24 → (∀ I8 : QI, I8 = q_u2 I 51 32 0 → ((¬ (I8 51 32) = 0 → post r1 I8) ∧ ((I8 51 32) = 0 → ((r1 = (-1) → (wX8_lay (I8 51 5) a1 a2 a3 a4 a5 a6 I8 (fun I9 => (∀ I10 : QI, I10 = q_u2 I9 51 5 ((I9 51 5) + 1) → post ((I10 51 5) - 1) I10)))) ∧ (¬ r1 = (-1) → post r1 I8)))))) ∧ ((I 51 5) = 24 → (∀ I11 : QI, I11 = q_u2 I 51 32 1 → ((¬ (I11 51 32) = 0 → post r1 I11) ∧ ((I11 51 32) = 0 → ((r1 = (-1) → (wX8_lay (I11 51 5) a1 a2 a3 a4 a5 a6 I11 (fun I12 => (∀ I13 : QI, I13 = q_u2 I12 51 5 ((I12 51 5) + 1) → post ((I13 51 5) - 1) I13)))) ∧ (¬ r1 = (-1) → post r1 I11)))))))))))))) ∧ (¬ (I 51 32) = 0 → ((¬ (I 51 32) = 0 → (∀ I14 : QI, I14 = q_u2 I 51 32 1 → ((¬ (I14 51 32) = 0 → post (-1) I14) ∧ ((I14 51 32) = 0 → (wX8_lay (I14 51 5) a1 a2 a3 a4 a5 a6 I14 (fun I15 => (∀ I16 : QI, I16 = q_u2 I15 51 5 ((I15 51 5) + 1) → post ((I16 51 5) - 1) I16))))))) ∧ ((I 51 32) = 0 → ((¬ (I 51 5) = 24 → (∀ I17 : QI, I17 = q_u2 I 51 32 0 → ((¬ (I17 51 32) = 0 → post (-1) I17) ∧ ((I17 51 32) = 0 → (wX8_lay (I17 51 5) a1 a2 a3 a4 a5 a6 I17 (fun I18 => (∀ I19 : QI, I19 = q_u2 I18 51 5 ((I18 51 5) + 1) → post ((I19 51 5) - 1) I19))))))) ∧ ((I 51 5) = 24 → (∀ I20 : QI, I20 = q_u2 I 51 32 1 → ((¬ (I20 51 32) = 0 → post (-1) I20) ∧ ((I20 51 32) = 0 → (wX8_lay (I20 51 5) a1 a2 a3 a4 a5 a6 I20 (fun I21 => (∀ I22 : QI, I22 = q_u2 I21 51 5 ((I21 51 5) + 1) → post ((I22 51 5) - 1) I22))))))))))))
set_option maxRecDepth 100000 in
set_option maxHeartbeats 4000000 in
theorem s_mX8_place {X : QX} {S : QS} {a1 : Int32} {a2 : Int32} {a3 : Int32} {a4 : Int32} {a5 : Int32} {a6 : Int32} {I : QI} {J : QJ} {post : Int32 → QI → Prop} (hS : Sh S) (h : wX8_place a1 a2 a3 a4 a5 a6 I post) : CX X mX8_place 2 0 0 [.ref 51, .int a1, .int a2, .int a3, .int a4, .int a5, .int a6] S I J (q_Pi S (fun r I2 J2 => J = J2 ∧ post r I2)) := by
  refine CX.of (lo := [(0, .ref 51), (1, .int a1), (2, .int a2), (3, .int a3), (4, .int a4), (5, .int a5), (6, .int a6)]) ok_mX8_place rfl (Nat.le_of_ble_eq_true rfl) rfl ?_
  replace h : (((I 51 32) = 0 → (wX8_find a1 a2 a3 a4 a5 a6 I (fun r1 => ((¬ (I 51 32) = 0 → (∀ I2 : QI, I2 = q_u2 I 51 32 1 → ((¬ (I2 51 32) = 0 → post r1 I2) ∧ ((I2 51 32) = 0 → ((r1 = (-1) → (wX8_lay (I2 51 5) a1 a2 a3 a4 a5 a6 I2 (fun I3 => (∀ I4 : QI, I4 = q_u2 I3 51 5 ((I3 51 5) + 1) → post ((I4 51 5) - 1) I4)))) ∧ (¬ r1 = (-1) → post r1 I2)))))) ∧ ((I 51 32) = 0 → ((¬ r1 = (-1) → (∀ I5 : QI, I5 = q_u2 I 51 32 0 → ((¬ (I5 51 32) = 0 → post r1 I5) ∧ ((I5 51 32) = 0 → ((r1 = (-1) → (wX8_lay (I5 51 5) a1 a2 a3 a4 a5 a6 I5 (fun I6 => (∀ I7 : QI, I7 = q_u2 I6 51 5 ((I6 51 5) + 1) → post ((I7 51 5) - 1) I7)))) ∧ (¬ r1 = (-1) → post r1 I5)))))) ∧ (r1 = (-1) → ((¬ (I 51 5) = 24 → (∀ I8 : QI, I8 = q_u2 I 51 32 0 → ((¬ (I8 51 32) = 0 → post r1 I8) ∧ ((I8 51 32) = 0 → ((r1 = (-1) → (wX8_lay (I8 51 5) a1 a2 a3 a4 a5 a6 I8 (fun I9 => (∀ I10 : QI, I10 = q_u2 I9 51 5 ((I9 51 5) + 1) → post ((I10 51 5) - 1) I10)))) ∧ (¬ r1 = (-1) → post r1 I8)))))) ∧ ((I 51 5) = 24 → (∀ I11 : QI, I11 = q_u2 I 51 32 1 → ((¬ (I11 51 32) = 0 → post r1 I11) ∧ ((I11 51 32) = 0 → ((r1 = (-1) → (wX8_lay (I11 51 5) a1 a2 a3 a4 a5 a6 I11 (fun I12 => (∀ I13 : QI, I13 = q_u2 I12 51 5 ((I12 51 5) + 1) → post ((I13 51 5) - 1) I13)))) ∧ (¬ r1 = (-1) → post r1 I11)))))))))))))) ∧ (¬ (I 51 32) = 0 → ((¬ (I 51 32) = 0 → (∀ I14 : QI, I14 = q_u2 I 51 32 1 → ((¬ (I14 51 32) = 0 → post (-1) I14) ∧ ((I14 51 32) = 0 → (wX8_lay (I14 51 5) a1 a2 a3 a4 a5 a6 I14 (fun I15 => (∀ I16 : QI, I16 = q_u2 I15 51 5 ((I15 51 5) + 1) → post ((I16 51 5) - 1) I16))))))) ∧ ((I 51 32) = 0 → ((¬ (I 51 5) = 24 → (∀ I17 : QI, I17 = q_u2 I 51 32 0 → ((¬ (I17 51 32) = 0 → post (-1) I17) ∧ ((I17 51 32) = 0 → (wX8_lay (I17 51 5) a1 a2 a3 a4 a5 a6 I17 (fun I18 => (∀ I19 : QI, I19 = q_u2 I18 51 5 ((I18 51 5) + 1) → post ((I19 51 5) - 1) I19))))))) ∧ ((I 51 5) = 24 → (∀ I20 : QI, I20 = q_u2 I 51 32 1 → ((¬ (I20 51 32) = 0 → post (-1) I20) ∧ ((I20 51 32) = 0 → (wX8_lay (I20 51 5) a1 a2 a3 a4 a5 a6 I20 (fun I21 => (∀ I22 : QI, I22 = q_u2 I21 51 5 ((I21 51 5) + 1) → post ((I22 51 5) - 1) I22)))))))))))) := h
  refine V_aload_n dX8_place_0 rfl rfl ?_
  refine V_geti dX8_place_1 fl_RX8_228 (hS.n 51 rfl) (hS.k 51 8 rfl) rfl ?_
  refine V_if_eq 11 dX8_place_4 rfl (fun hc => ?_) (fun hc => ?_)
  · replace h := h.1 hc
    refine V_aload_n dX8_place_11 rfl rfl ?_
    refine V_iload_n dX8_place_12 rfl rfl ?_
    refine V_iload_n dX8_place_13 rfl rfl ?_
    refine V_iload_n dX8_place_14 rfl rfl ?_
    refine V_iload dX8_place_15 rfl ?_
    refine V_iload dX8_place_17 rfl ?_
    refine V_iload dX8_place_19 rfl ?_
    refine V_callVi (st := []) [.int a1, .int a2, .int a3, .int a4, .int a5, .int a6] dX8_place_21 ok_mX8_find rfl ml_RX8_128 in_mX8_find se_mX8_find (hS.n 51 rfl) (hS.k 51 8 rfl) (by decide) rfl (Nat.le_of_ble_eq_true rfl) (by decide) (by decide) (by decide) (s_mX8_find hS h) (fun r1 I9 J9 h => ?_)
    obtain ⟨rfl, rfl, h⟩ := h
    refine V_istore (lo2 := [(7, .int r1), (0, .ref 51), (1, .int a1), (2, .int a2), (3, .int a3), (4, .int a4), (5, .int a5), (6, .int a6)]) dX8_place_24 (by decide) rfl ?_
    refine V_aload_n dX8_place_26 rfl rfl ?_
    refine V_aload_n dX8_place_27 rfl rfl ?_
    refine V_geti dX8_place_28 fl_RX8_228 (hS.n 51 rfl) (hS.k 51 8 rfl) rfl ?_
    refine V_if_ne 49 dX8_place_31 rfl (fun hc => ?_) (fun hc => ?_)
    · replace h := h.1 hc
      refine V_iconst (v := 1) dX8_place_49 (by decide) ?_
      refine V_goto 54 dX8_place_50 rfl ?_
      refine V_puti dX8_place_54 fl_RX8_228 rfl (hS.n 51 rfl) (hS.k 51 8 rfl) rfl (q_nz (by decide)) (q_fz (by decide)) ?_
      refine V_memI (fun I2 e_I2 => ?_)
      replace h := h I2 e_I2
      refine V_aload_n dX8_place_57 rfl rfl ?_
      refine V_geti dX8_place_58 fl_RX8_228 (hS.n 51 rfl) (hS.k 51 8 rfl) rfl ?_
      refine V_if_ne 70 dX8_place_61 rfl (fun hc => ?_) (fun hc => ?_)
      · replace h := h.1 hc
        refine V_iload dX8_place_70 rfl ?_
        exact V_iret dX8_place_72 rfl (by decide) (by decide) ⟨_, rfl, rfl, rfl, h⟩
      · replace h := h.2 hc
        refine V_iload dX8_place_64 rfl ?_
        refine V_iconst (v := (-1)) dX8_place_66 (by decide) ?_
        refine V_icmp_eq 73 dX8_place_67 rfl (fun hc => ?_) (fun hc => ?_)
        · replace h := h.1 hc
          refine V_aload_n dX8_place_73 rfl rfl ?_
          refine V_aload_n dX8_place_74 rfl rfl ?_
          refine V_geti dX8_place_75 fl_RX8_118 (hS.n 51 rfl) (hS.k 51 8 rfl) rfl ?_
          refine V_iload_n dX8_place_78 rfl rfl ?_
          refine V_iload_n dX8_place_79 rfl rfl ?_
          refine V_iload_n dX8_place_80 rfl rfl ?_
          refine V_iload dX8_place_81 rfl ?_
          refine V_iload dX8_place_83 rfl ?_
          refine V_iload dX8_place_85 rfl ?_
          refine V_callVv (st := []) [.int (I2 51 5), .int a1, .int a2, .int a3, .int a4, .int a5, .int a6] dX8_place_87 ok_mX8_lay rfl ml_RX8_132 in_mX8_lay se_mX8_lay (hS.n 51 rfl) (hS.k 51 8 rfl) (by decide) rfl (Nat.le_of_ble_eq_true rfl) (by decide) (by decide) (by decide) (s_mX8_lay hS h) (fun I3 J9 h => ?_)
          obtain ⟨rfl, h⟩ := h
          refine V_aload_n dX8_place_90 rfl rfl ?_
          refine V_dup dX8_place_91 rfl ?_
          refine V_geti dX8_place_92 fl_RX8_118 (hS.n 51 rfl) (hS.k 51 8 rfl) rfl ?_
          refine V_iconst (v := 1) dX8_place_95 (by decide) ?_
          refine V_iadd dX8_place_96 ?_
          refine V_puti dX8_place_97 fl_RX8_118 rfl (hS.n 51 rfl) (hS.k 51 8 rfl) rfl rfl rfl ?_
          refine V_memI (fun I4 e_I4 => ?_)
          replace h := h I4 e_I4
          refine V_aload_n dX8_place_100 rfl rfl ?_
          refine V_geti dX8_place_101 fl_RX8_118 (hS.n 51 rfl) (hS.k 51 8 rfl) rfl ?_
          refine V_iconst (v := 1) dX8_place_104 (by decide) ?_
          refine V_isub dX8_place_105 ?_
          exact V_iret dX8_place_106 rfl (by decide) (by decide) ⟨_, rfl, rfl, rfl, h⟩
        · replace h := h.2 hc
          refine V_iload dX8_place_70 rfl ?_
          exact V_iret dX8_place_72 rfl (by decide) (by decide) ⟨_, rfl, rfl, rfl, h⟩
    · replace h := h.2 hc
      refine V_iload dX8_place_34 rfl ?_
      refine V_iconst (v := (-1)) dX8_place_36 (by decide) ?_
      refine V_icmp_ne 53 dX8_place_37 rfl (fun hc => ?_) (fun hc => ?_)
      · replace h := h.1 hc
        refine V_iconst (v := 0) dX8_place_53 (by decide) ?_
        refine V_puti dX8_place_54 fl_RX8_228 rfl (hS.n 51 rfl) (hS.k 51 8 rfl) rfl (q_nz (by decide)) (q_fz (by decide)) ?_
        refine V_memI (fun I5 e_I5 => ?_)
        replace h := h I5 e_I5
        refine V_aload_n dX8_place_57 rfl rfl ?_
        refine V_geti dX8_place_58 fl_RX8_228 (hS.n 51 rfl) (hS.k 51 8 rfl) rfl ?_
        refine V_if_ne 70 dX8_place_61 rfl (fun hc => ?_) (fun hc => ?_)
        · replace h := h.1 hc
          refine V_iload dX8_place_70 rfl ?_
          exact V_iret dX8_place_72 rfl (by decide) (by decide) ⟨_, rfl, rfl, rfl, h⟩
        · replace h := h.2 hc
          refine V_iload dX8_place_64 rfl ?_
          refine V_iconst (v := (-1)) dX8_place_66 (by decide) ?_
          refine V_icmp_eq 73 dX8_place_67 rfl (fun hc => ?_) (fun hc => ?_)
          · replace h := h.1 hc
            refine V_aload_n dX8_place_73 rfl rfl ?_
            refine V_aload_n dX8_place_74 rfl rfl ?_
            refine V_geti dX8_place_75 fl_RX8_118 (hS.n 51 rfl) (hS.k 51 8 rfl) rfl ?_
            refine V_iload_n dX8_place_78 rfl rfl ?_
            refine V_iload_n dX8_place_79 rfl rfl ?_
            refine V_iload_n dX8_place_80 rfl rfl ?_
            refine V_iload dX8_place_81 rfl ?_
            refine V_iload dX8_place_83 rfl ?_
            refine V_iload dX8_place_85 rfl ?_
            refine V_callVv (st := []) [.int (I5 51 5), .int a1, .int a2, .int a3, .int a4, .int a5, .int a6] dX8_place_87 ok_mX8_lay rfl ml_RX8_132 in_mX8_lay se_mX8_lay (hS.n 51 rfl) (hS.k 51 8 rfl) (by decide) rfl (Nat.le_of_ble_eq_true rfl) (by decide) (by decide) (by decide) (s_mX8_lay hS h) (fun I6 J9 h => ?_)
            obtain ⟨rfl, h⟩ := h
            refine V_aload_n dX8_place_90 rfl rfl ?_
            refine V_dup dX8_place_91 rfl ?_
            refine V_geti dX8_place_92 fl_RX8_118 (hS.n 51 rfl) (hS.k 51 8 rfl) rfl ?_
            refine V_iconst (v := 1) dX8_place_95 (by decide) ?_
            refine V_iadd dX8_place_96 ?_
            refine V_puti dX8_place_97 fl_RX8_118 rfl (hS.n 51 rfl) (hS.k 51 8 rfl) rfl rfl rfl ?_
            refine V_memI (fun I7 e_I7 => ?_)
            replace h := h I7 e_I7
            refine V_aload_n dX8_place_100 rfl rfl ?_
            refine V_geti dX8_place_101 fl_RX8_118 (hS.n 51 rfl) (hS.k 51 8 rfl) rfl ?_
            refine V_iconst (v := 1) dX8_place_104 (by decide) ?_
            refine V_isub dX8_place_105 ?_
            exact V_iret dX8_place_106 rfl (by decide) (by decide) ⟨_, rfl, rfl, rfl, h⟩
          · replace h := h.2 hc
            refine V_iload dX8_place_70 rfl ?_
            exact V_iret dX8_place_72 rfl (by decide) (by decide) ⟨_, rfl, rfl, rfl, h⟩
      · replace h := h.2 hc
        refine V_aload_n dX8_place_40 rfl rfl ?_
        refine V_geti dX8_place_41 fl_RX8_118 (hS.n 51 rfl) (hS.k 51 8 rfl) rfl ?_
        refine V_bipush (v := 24) dX8_place_44 (by decide) ?_
        refine V_icmp_ne 53 dX8_place_46 rfl (fun hc => ?_) (fun hc => ?_)
        · replace h := h.1 hc
          refine V_iconst (v := 0) dX8_place_53 (by decide) ?_
          refine V_puti dX8_place_54 fl_RX8_228 rfl (hS.n 51 rfl) (hS.k 51 8 rfl) rfl (q_nz (by decide)) (q_fz (by decide)) ?_
          refine V_memI (fun I8 e_I8 => ?_)
          replace h := h I8 e_I8
          refine V_aload_n dX8_place_57 rfl rfl ?_
          refine V_geti dX8_place_58 fl_RX8_228 (hS.n 51 rfl) (hS.k 51 8 rfl) rfl ?_
          refine V_if_ne 70 dX8_place_61 rfl (fun hc => ?_) (fun hc => ?_)
          · replace h := h.1 hc
            refine V_iload dX8_place_70 rfl ?_
            exact V_iret dX8_place_72 rfl (by decide) (by decide) ⟨_, rfl, rfl, rfl, h⟩
          · replace h := h.2 hc
            refine V_iload dX8_place_64 rfl ?_
            refine V_iconst (v := (-1)) dX8_place_66 (by decide) ?_
            refine V_icmp_eq 73 dX8_place_67 rfl (fun hc => ?_) (fun hc => ?_)
            · replace h := h.1 hc
              refine V_aload_n dX8_place_73 rfl rfl ?_
              refine V_aload_n dX8_place_74 rfl rfl ?_
              refine V_geti dX8_place_75 fl_RX8_118 (hS.n 51 rfl) (hS.k 51 8 rfl) rfl ?_
              refine V_iload_n dX8_place_78 rfl rfl ?_
              refine V_iload_n dX8_place_79 rfl rfl ?_
              refine V_iload_n dX8_place_80 rfl rfl ?_
              refine V_iload dX8_place_81 rfl ?_
              refine V_iload dX8_place_83 rfl ?_
              refine V_iload dX8_place_85 rfl ?_
              refine V_callVv (st := []) [.int (I8 51 5), .int a1, .int a2, .int a3, .int a4, .int a5, .int a6] dX8_place_87 ok_mX8_lay rfl ml_RX8_132 in_mX8_lay se_mX8_lay (hS.n 51 rfl) (hS.k 51 8 rfl) (by decide) rfl (Nat.le_of_ble_eq_true rfl) (by decide) (by decide) (by decide) (s_mX8_lay hS h) (fun I9 J9 h => ?_)
              obtain ⟨rfl, h⟩ := h
              refine V_aload_n dX8_place_90 rfl rfl ?_
              refine V_dup dX8_place_91 rfl ?_
              refine V_geti dX8_place_92 fl_RX8_118 (hS.n 51 rfl) (hS.k 51 8 rfl) rfl ?_
              refine V_iconst (v := 1) dX8_place_95 (by decide) ?_
              refine V_iadd dX8_place_96 ?_
              refine V_puti dX8_place_97 fl_RX8_118 rfl (hS.n 51 rfl) (hS.k 51 8 rfl) rfl rfl rfl ?_
              refine V_memI (fun I10 e_I10 => ?_)
              replace h := h I10 e_I10
              refine V_aload_n dX8_place_100 rfl rfl ?_
              refine V_geti dX8_place_101 fl_RX8_118 (hS.n 51 rfl) (hS.k 51 8 rfl) rfl ?_
              refine V_iconst (v := 1) dX8_place_104 (by decide) ?_
              refine V_isub dX8_place_105 ?_
              exact V_iret dX8_place_106 rfl (by decide) (by decide) ⟨_, rfl, rfl, rfl, h⟩
            · replace h := h.2 hc
              refine V_iload dX8_place_70 rfl ?_
              exact V_iret dX8_place_72 rfl (by decide) (by decide) ⟨_, rfl, rfl, rfl, h⟩
        · replace h := h.2 hc
          refine V_iconst (v := 1) dX8_place_49 (by decide) ?_
          refine V_goto 54 dX8_place_50 rfl ?_
          refine V_puti dX8_place_54 fl_RX8_228 rfl (hS.n 51 rfl) (hS.k 51 8 rfl) rfl (q_nz (by decide)) (q_fz (by decide)) ?_
          refine V_memI (fun I11 e_I11 => ?_)
          replace h := h I11 e_I11
          refine V_aload_n dX8_place_57 rfl rfl ?_
          refine V_geti dX8_place_58 fl_RX8_228 (hS.n 51 rfl) (hS.k 51 8 rfl) rfl ?_
          refine V_if_ne 70 dX8_place_61 rfl (fun hc => ?_) (fun hc => ?_)
          · replace h := h.1 hc
            refine V_iload dX8_place_70 rfl ?_
            exact V_iret dX8_place_72 rfl (by decide) (by decide) ⟨_, rfl, rfl, rfl, h⟩
          · replace h := h.2 hc
            refine V_iload dX8_place_64 rfl ?_
            refine V_iconst (v := (-1)) dX8_place_66 (by decide) ?_
            refine V_icmp_eq 73 dX8_place_67 rfl (fun hc => ?_) (fun hc => ?_)
            · replace h := h.1 hc
              refine V_aload_n dX8_place_73 rfl rfl ?_
              refine V_aload_n dX8_place_74 rfl rfl ?_
              refine V_geti dX8_place_75 fl_RX8_118 (hS.n 51 rfl) (hS.k 51 8 rfl) rfl ?_
              refine V_iload_n dX8_place_78 rfl rfl ?_
              refine V_iload_n dX8_place_79 rfl rfl ?_
              refine V_iload_n dX8_place_80 rfl rfl ?_
              refine V_iload dX8_place_81 rfl ?_
              refine V_iload dX8_place_83 rfl ?_
              refine V_iload dX8_place_85 rfl ?_
              refine V_callVv (st := []) [.int (I11 51 5), .int a1, .int a2, .int a3, .int a4, .int a5, .int a6] dX8_place_87 ok_mX8_lay rfl ml_RX8_132 in_mX8_lay se_mX8_lay (hS.n 51 rfl) (hS.k 51 8 rfl) (by decide) rfl (Nat.le_of_ble_eq_true rfl) (by decide) (by decide) (by decide) (s_mX8_lay hS h) (fun I12 J9 h => ?_)
              obtain ⟨rfl, h⟩ := h
              refine V_aload_n dX8_place_90 rfl rfl ?_
              refine V_dup dX8_place_91 rfl ?_
              refine V_geti dX8_place_92 fl_RX8_118 (hS.n 51 rfl) (hS.k 51 8 rfl) rfl ?_
              refine V_iconst (v := 1) dX8_place_95 (by decide) ?_
              refine V_iadd dX8_place_96 ?_
              refine V_puti dX8_place_97 fl_RX8_118 rfl (hS.n 51 rfl) (hS.k 51 8 rfl) rfl rfl rfl ?_
              refine V_memI (fun I13 e_I13 => ?_)
              replace h := h I13 e_I13
              refine V_aload_n dX8_place_100 rfl rfl ?_
              refine V_geti dX8_place_101 fl_RX8_118 (hS.n 51 rfl) (hS.k 51 8 rfl) rfl ?_
              refine V_iconst (v := 1) dX8_place_104 (by decide) ?_
              refine V_isub dX8_place_105 ?_
              exact V_iret dX8_place_106 rfl (by decide) (by decide) ⟨_, rfl, rfl, rfl, h⟩
            · replace h := h.2 hc
              refine V_iload dX8_place_70 rfl ?_
              exact V_iret dX8_place_72 rfl (by decide) (by decide) ⟨_, rfl, rfl, rfl, h⟩
  · replace h := h.2 hc
    refine V_iconst (v := (-1)) dX8_place_7 (by decide) ?_
    refine V_goto 24 dX8_place_8 rfl ?_
    refine V_istore (lo2 := [(7, .int (-1)), (0, .ref 51), (1, .int a1), (2, .int a2), (3, .int a3), (4, .int a4), (5, .int a5), (6, .int a6)]) dX8_place_24 (by decide) rfl ?_
    refine V_aload_n dX8_place_26 rfl rfl ?_
    refine V_aload_n dX8_place_27 rfl rfl ?_
    refine V_geti dX8_place_28 fl_RX8_228 (hS.n 51 rfl) (hS.k 51 8 rfl) rfl ?_
    refine V_if_ne 49 dX8_place_31 rfl (fun hc => ?_) (fun hc => ?_)
    · replace h := h.1 hc
      refine V_iconst (v := 1) dX8_place_49 (by decide) ?_
      refine V_goto 54 dX8_place_50 rfl ?_
      refine V_puti dX8_place_54 fl_RX8_228 rfl (hS.n 51 rfl) (hS.k 51 8 rfl) rfl (q_nz (by decide)) (q_fz (by decide)) ?_
      refine V_memI (fun I14 e_I14 => ?_)
      replace h := h I14 e_I14
      refine V_aload_n dX8_place_57 rfl rfl ?_
      refine V_geti dX8_place_58 fl_RX8_228 (hS.n 51 rfl) (hS.k 51 8 rfl) rfl ?_
      refine V_if_ne 70 dX8_place_61 rfl (fun hc => ?_) (fun hc => ?_)
      · replace h := h.1 hc
        refine V_iload dX8_place_70 rfl ?_
        exact V_iret dX8_place_72 rfl (by decide) (by decide) ⟨_, rfl, rfl, rfl, h⟩
      · replace h := h.2 hc
        refine V_iload dX8_place_64 rfl ?_
        refine V_iconst (v := (-1)) dX8_place_66 (by decide) ?_
        refine V_icmp_eq 73 dX8_place_67 rfl (fun hc => ?_) (fun hc => ?_)
        · refine V_aload_n dX8_place_73 rfl rfl ?_
          refine V_aload_n dX8_place_74 rfl rfl ?_
          refine V_geti dX8_place_75 fl_RX8_118 (hS.n 51 rfl) (hS.k 51 8 rfl) rfl ?_
          refine V_iload_n dX8_place_78 rfl rfl ?_
          refine V_iload_n dX8_place_79 rfl rfl ?_
          refine V_iload_n dX8_place_80 rfl rfl ?_
          refine V_iload dX8_place_81 rfl ?_
          refine V_iload dX8_place_83 rfl ?_
          refine V_iload dX8_place_85 rfl ?_
          refine V_callVv (st := []) [.int (I14 51 5), .int a1, .int a2, .int a3, .int a4, .int a5, .int a6] dX8_place_87 ok_mX8_lay rfl ml_RX8_132 in_mX8_lay se_mX8_lay (hS.n 51 rfl) (hS.k 51 8 rfl) (by decide) rfl (Nat.le_of_ble_eq_true rfl) (by decide) (by decide) (by decide) (s_mX8_lay hS h) (fun I15 J9 h => ?_)
          obtain ⟨rfl, h⟩ := h
          refine V_aload_n dX8_place_90 rfl rfl ?_
          refine V_dup dX8_place_91 rfl ?_
          refine V_geti dX8_place_92 fl_RX8_118 (hS.n 51 rfl) (hS.k 51 8 rfl) rfl ?_
          refine V_iconst (v := 1) dX8_place_95 (by decide) ?_
          refine V_iadd dX8_place_96 ?_
          refine V_puti dX8_place_97 fl_RX8_118 rfl (hS.n 51 rfl) (hS.k 51 8 rfl) rfl rfl rfl ?_
          refine V_memI (fun I16 e_I16 => ?_)
          replace h := h I16 e_I16
          refine V_aload_n dX8_place_100 rfl rfl ?_
          refine V_geti dX8_place_101 fl_RX8_118 (hS.n 51 rfl) (hS.k 51 8 rfl) rfl ?_
          refine V_iconst (v := 1) dX8_place_104 (by decide) ?_
          refine V_isub dX8_place_105 ?_
          exact V_iret dX8_place_106 rfl (by decide) (by decide) ⟨_, rfl, rfl, rfl, h⟩
        · first | exact absurd hc (by decide) | exact absurd (by decide) hc
    · replace h := h.2 hc
      refine V_iload dX8_place_34 rfl ?_
      refine V_iconst (v := (-1)) dX8_place_36 (by decide) ?_
      refine V_icmp_ne 53 dX8_place_37 rfl (fun hc => ?_) (fun hc => ?_)
      · first | exact absurd hc (by decide) | exact absurd (by decide) hc
      · refine V_aload_n dX8_place_40 rfl rfl ?_
        refine V_geti dX8_place_41 fl_RX8_118 (hS.n 51 rfl) (hS.k 51 8 rfl) rfl ?_
        refine V_bipush (v := 24) dX8_place_44 (by decide) ?_
        refine V_icmp_ne 53 dX8_place_46 rfl (fun hc => ?_) (fun hc => ?_)
        · replace h := h.1 hc
          refine V_iconst (v := 0) dX8_place_53 (by decide) ?_
          refine V_puti dX8_place_54 fl_RX8_228 rfl (hS.n 51 rfl) (hS.k 51 8 rfl) rfl (q_nz (by decide)) (q_fz (by decide)) ?_
          refine V_memI (fun I17 e_I17 => ?_)
          replace h := h I17 e_I17
          refine V_aload_n dX8_place_57 rfl rfl ?_
          refine V_geti dX8_place_58 fl_RX8_228 (hS.n 51 rfl) (hS.k 51 8 rfl) rfl ?_
          refine V_if_ne 70 dX8_place_61 rfl (fun hc => ?_) (fun hc => ?_)
          · replace h := h.1 hc
            refine V_iload dX8_place_70 rfl ?_
            exact V_iret dX8_place_72 rfl (by decide) (by decide) ⟨_, rfl, rfl, rfl, h⟩
          · replace h := h.2 hc
            refine V_iload dX8_place_64 rfl ?_
            refine V_iconst (v := (-1)) dX8_place_66 (by decide) ?_
            refine V_icmp_eq 73 dX8_place_67 rfl (fun hc => ?_) (fun hc => ?_)
            · refine V_aload_n dX8_place_73 rfl rfl ?_
              refine V_aload_n dX8_place_74 rfl rfl ?_
              refine V_geti dX8_place_75 fl_RX8_118 (hS.n 51 rfl) (hS.k 51 8 rfl) rfl ?_
              refine V_iload_n dX8_place_78 rfl rfl ?_
              refine V_iload_n dX8_place_79 rfl rfl ?_
              refine V_iload_n dX8_place_80 rfl rfl ?_
              refine V_iload dX8_place_81 rfl ?_
              refine V_iload dX8_place_83 rfl ?_
              refine V_iload dX8_place_85 rfl ?_
              refine V_callVv (st := []) [.int (I17 51 5), .int a1, .int a2, .int a3, .int a4, .int a5, .int a6] dX8_place_87 ok_mX8_lay rfl ml_RX8_132 in_mX8_lay se_mX8_lay (hS.n 51 rfl) (hS.k 51 8 rfl) (by decide) rfl (Nat.le_of_ble_eq_true rfl) (by decide) (by decide) (by decide) (s_mX8_lay hS h) (fun I18 J9 h => ?_)
              obtain ⟨rfl, h⟩ := h
              refine V_aload_n dX8_place_90 rfl rfl ?_
              refine V_dup dX8_place_91 rfl ?_
              refine V_geti dX8_place_92 fl_RX8_118 (hS.n 51 rfl) (hS.k 51 8 rfl) rfl ?_
              refine V_iconst (v := 1) dX8_place_95 (by decide) ?_
              refine V_iadd dX8_place_96 ?_
              refine V_puti dX8_place_97 fl_RX8_118 rfl (hS.n 51 rfl) (hS.k 51 8 rfl) rfl rfl rfl ?_
              refine V_memI (fun I19 e_I19 => ?_)
              replace h := h I19 e_I19
              refine V_aload_n dX8_place_100 rfl rfl ?_
              refine V_geti dX8_place_101 fl_RX8_118 (hS.n 51 rfl) (hS.k 51 8 rfl) rfl ?_
              refine V_iconst (v := 1) dX8_place_104 (by decide) ?_
              refine V_isub dX8_place_105 ?_
              exact V_iret dX8_place_106 rfl (by decide) (by decide) ⟨_, rfl, rfl, rfl, h⟩
            · first | exact absurd hc (by decide) | exact absurd (by decide) hc
        · replace h := h.2 hc
          refine V_iconst (v := 1) dX8_place_49 (by decide) ?_
          refine V_goto 54 dX8_place_50 rfl ?_
          refine V_puti dX8_place_54 fl_RX8_228 rfl (hS.n 51 rfl) (hS.k 51 8 rfl) rfl (q_nz (by decide)) (q_fz (by decide)) ?_
          refine V_memI (fun I20 e_I20 => ?_)
          replace h := h I20 e_I20
          refine V_aload_n dX8_place_57 rfl rfl ?_
          refine V_geti dX8_place_58 fl_RX8_228 (hS.n 51 rfl) (hS.k 51 8 rfl) rfl ?_
          refine V_if_ne 70 dX8_place_61 rfl (fun hc => ?_) (fun hc => ?_)
          · replace h := h.1 hc
            refine V_iload dX8_place_70 rfl ?_
            exact V_iret dX8_place_72 rfl (by decide) (by decide) ⟨_, rfl, rfl, rfl, h⟩
          · replace h := h.2 hc
            refine V_iload dX8_place_64 rfl ?_
            refine V_iconst (v := (-1)) dX8_place_66 (by decide) ?_
            refine V_icmp_eq 73 dX8_place_67 rfl (fun hc => ?_) (fun hc => ?_)
            · refine V_aload_n dX8_place_73 rfl rfl ?_
              refine V_aload_n dX8_place_74 rfl rfl ?_
              refine V_geti dX8_place_75 fl_RX8_118 (hS.n 51 rfl) (hS.k 51 8 rfl) rfl ?_
              refine V_iload_n dX8_place_78 rfl rfl ?_
              refine V_iload_n dX8_place_79 rfl rfl ?_
              refine V_iload_n dX8_place_80 rfl rfl ?_
              refine V_iload dX8_place_81 rfl ?_
              refine V_iload dX8_place_83 rfl ?_
              refine V_iload dX8_place_85 rfl ?_
              refine V_callVv (st := []) [.int (I20 51 5), .int a1, .int a2, .int a3, .int a4, .int a5, .int a6] dX8_place_87 ok_mX8_lay rfl ml_RX8_132 in_mX8_lay se_mX8_lay (hS.n 51 rfl) (hS.k 51 8 rfl) (by decide) rfl (Nat.le_of_ble_eq_true rfl) (by decide) (by decide) (by decide) (s_mX8_lay hS h) (fun I21 J9 h => ?_)
              obtain ⟨rfl, h⟩ := h
              refine V_aload_n dX8_place_90 rfl rfl ?_
              refine V_dup dX8_place_91 rfl ?_
              refine V_geti dX8_place_92 fl_RX8_118 (hS.n 51 rfl) (hS.k 51 8 rfl) rfl ?_
              refine V_iconst (v := 1) dX8_place_95 (by decide) ?_
              refine V_iadd dX8_place_96 ?_
              refine V_puti dX8_place_97 fl_RX8_118 rfl (hS.n 51 rfl) (hS.k 51 8 rfl) rfl rfl rfl ?_
              refine V_memI (fun I22 e_I22 => ?_)
              replace h := h I22 e_I22
              refine V_aload_n dX8_place_100 rfl rfl ?_
              refine V_geti dX8_place_101 fl_RX8_118 (hS.n 51 rfl) (hS.k 51 8 rfl) rfl ?_
              refine V_iconst (v := 1) dX8_place_104 (by decide) ?_
              refine V_isub dX8_place_105 ?_
              exact V_iret dX8_place_106 rfl (by decide) (by decide) ⟨_, rfl, rfl, rfl, h⟩
            · first | exact absurd hc (by decide) | exact absurd (by decide) hc
def wX8_isColumn (a1 : Int32) (a2 : Int32) (I : QI) (post : Int32 → Prop) : Prop := (wX8_isTable a1 I (fun r1 => ((r1 = 0 → post 0) ∧ (¬ r1 = 0 → (vp_in a1 4 ∧ (wX8_in a2 0 ((I 52 (a1).toNatClampNeg) - 1) I (fun r2 => ((r2 = 0 → post 0) ∧ (¬ r2 = 0 → post 1)))))))))
set_option maxRecDepth 100000 in
set_option maxHeartbeats 4000000 in
theorem s_mX8_isColumn {X : QX} {S : QS} {a1 : Int32} {a2 : Int32} {I : QI} {J : QJ} {post : Int32 → Prop} (hS : Sh S) (h : wX8_isColumn a1 a2 I post) : CX X mX8_isColumn 2 0 0 [.ref 51, .int a1, .int a2] S I J (q_Pi S (fun r I2 J2 => I = I2 ∧ J = J2 ∧ post r)) := by
  refine CX.of (lo := [(0, .ref 51), (1, .int a1), (2, .int a2)]) ok_mX8_isColumn rfl (Nat.le_of_ble_eq_true rfl) rfl ?_
  replace h : (wX8_isTable a1 I (fun r1 => ((r1 = 0 → post 0) ∧ (¬ r1 = 0 → (vp_in a1 4 ∧ (wX8_in a2 0 ((I 52 (a1).toNatClampNeg) - 1) I (fun r2 => ((r2 = 0 → post 0) ∧ (¬ r2 = 0 → post 1))))))))) := h
  refine V_aload_n dX8_isColumn_0 rfl rfl ?_
  refine V_iload_n dX8_isColumn_1 rfl rfl ?_
  refine V_callVi (st := []) [.int a1] dX8_isColumn_2 ok_mX8_isTable rfl ml_RX8_108 in_mX8_isTable se_mX8_isTable (hS.n 51 rfl) (hS.k 51 8 rfl) (by decide) rfl (Nat.le_of_ble_eq_true rfl) (by decide) (by decide) (by decide) (s_mX8_isTable hS h) (fun r1 I9 J9 h => ?_)
  obtain ⟨rfl, rfl, h⟩ := h
  refine V_if_eq 28 dX8_isColumn_5 rfl (fun hc => ?_) (fun hc => ?_)
  · replace h := h.1 hc
    refine V_iconst (v := 0) dX8_isColumn_28 (by decide) ?_
    exact V_zret dX8_isColumn_29 rfl (by decide) (by decide) (by decide) ⟨_, rfl, rfl, rfl, rfl, h⟩
  · replace h := h.2 hc
    refine V_iload_n dX8_isColumn_8 rfl rfl ?_
    refine V_iconst (v := 0) dX8_isColumn_9 (by decide) ?_
    refine V_aload_n dX8_isColumn_10 rfl rfl ?_
    refine V_getr dX8_isColumn_11 fl_RX8_9 (hS.n 51 rfl) (hS.k 51 8 rfl) rfl (hS.r 51 2 52 rfl) ?_
    refine V_iload_n dX8_isColumn_14 rfl rfl ?_
    obtain ⟨hb, h⟩ := h
    refine V_iald dX8_isColumn_15 (hS.n 52 rfl) (hS.k 52 9 rfl) (by rw [(hS.z 52 4 rfl)]; exact hb) ?_
    refine V_iconst (v := 1) dX8_isColumn_16 (by decide) ?_
    refine V_isub dX8_isColumn_17 ?_
    refine V_callSi (st := []) [.int a2, .int 0, .int ((I 52 (a1).toNatClampNeg) - 1)] dX8_isColumn_18 ok_mX8_in rfl ml_RX8_104 st_mX8_in (Nat.le_of_ble_eq_true rfl) (by decide) (by decide) (by decide) (s_mX8_in hS h) (fun r2 I9 J9 h => ?_)
    obtain ⟨rfl, rfl, h⟩ := h
    refine V_if_eq 28 dX8_isColumn_21 rfl (fun hc => ?_) (fun hc => ?_)
    · replace h := h.1 hc
      refine V_iconst (v := 0) dX8_isColumn_28 (by decide) ?_
      exact V_zret dX8_isColumn_29 rfl (by decide) (by decide) (by decide) ⟨_, rfl, rfl, rfl, rfl, h⟩
    · replace h := h.2 hc
      refine V_iconst (v := 1) dX8_isColumn_24 (by decide) ?_
      refine V_goto 29 dX8_isColumn_25 rfl ?_
      exact V_zret dX8_isColumn_29 rfl (by decide) (by decide) (by decide) ⟨_, rfl, rfl, rfl, rfl, h⟩
def wX8_link (a1 : Int32) (a2 : Int32) (a3 : Int32) (a4 : Int32) (I : QI) (post : Int32 → QI → Prop) : Prop := (wX8_isColumn a1 a2 I (fun r1 => ((r1 = 0 → (wX8_goesWell 1 I (fun r3 I2 => ((¬ r3 = 0 → (vp_in (4 * (I2 51 14)) 24 ∧ (∀ I4 : QI, I4 = q_u2 I2 62 ((4 * (I2 51 14))).toNatClampNeg a1 → (vp_in ((4 * (I4 51 14)) + 1) 24 ∧ (∀ I5 : QI, I5 = q_u2 I4 62 (((4 * (I4 51 14)) + 1)).toNatClampNeg a2 → (vp_in ((4 * (I5 51 14)) + 2) 24 ∧ (∀ I6 : QI, I6 = q_u2 I5 62 (((4 * (I5 51 14)) + 2)).toNatClampNeg a3 → (vp_in ((4 * (I6 51 14)) + 3) 24 ∧ (∀ I7 : QI, I7 = q_u2 I6 62 (((4 * (I6 51 14)) + 3)).toNatClampNeg a4 → (∀ I8 : QI, I8 = q_u2 I7 51 14 ((I7 51 14) + 1) → post (I8 51 14) I8)))))))))) ∧ (r3 = 0 → post 0 I2))))) ∧ (¬ r1 = 0 → (wX8_isColumn a3 a4 I (fun r9 => ((r9 = 0 → (wX8_goesWell 1 I (fun r11 I10 => ((¬ r11 = 0 → (vp_in (4 * (I10 51 14)) 24 ∧ (∀ I12 : QI, I12 = q_u2 I10 62 ((4 * (I10 51 14))).toNatClampNeg a1 → (vp_in ((4 * (I12 51 14)) + 1) 24 ∧ (∀ I13 : QI, I13 = q_u2 I12 62 (((4 * (I12 51 14)) + 1)).toNatClampNeg a2 → (vp_in ((4 * (I13 51 14)) + 2) 24 ∧ (∀ I14 : QI, I14 = q_u2 I13 62 (((4 * (I13 51 14)) + 2)).toNatClampNeg a3 → (vp_in ((4 * (I14 51 14)) + 3) 24 ∧ (∀ I15 : QI, I15 = q_u2 I14 62 (((4 * (I14 51 14)) + 3)).toNatClampNeg a4 → (∀ I16 : QI, I16 = q_u2 I15 51 14 ((I15 51 14) + 1) → post (I16 51 14) I16)))))))))) ∧ (r11 = 0 → post 0 I10))))) ∧ (¬ r9 = 0 → ((¬ a1 = a3 → ((¬ (I 51 14) = 6 → (wX8_goesWell 0 I (fun r18 I17 => ((¬ r18 = 0 → (vp_in (4 * (I17 51 14)) 24 ∧ (∀ I19 : QI, I19 = q_u2 I17 62 ((4 * (I17 51 14))).toNatClampNeg a1 → (vp_in ((4 * (I19 51 14)) + 1) 24 ∧ (∀ I20 : QI, I20 = q_u2 I19 62 (((4 * (I19 51 14)) + 1)).toNatClampNeg a2 → (vp_in ((4 * (I20 51 14)) + 2) 24 ∧ (∀ I21 : QI, I21 = q_u2 I20 62 (((4 * (I20 51 14)) + 2)).toNatClampNeg a3 → (vp_in ((4 * (I21 51 14)) + 3) 24 ∧ (∀ I22 : QI, I22 = q_u2 I21 62 (((4 * (I21 51 14)) + 3)).toNatClampNeg a4 → (∀ I23 : QI, I23 = q_u2 I22 51 14 ((I22 51 14) + 1) → post (I23 51 14) I23)))))))))) ∧ (r18 = 0 → post 0 I17))))) ∧ ((I 51 14) = 6 → (wX8_goesWell 3 I (fun r25 I24 => ((¬ r25 = 0 → (vp_in (4 * (I24 51 14)) 24 ∧ (∀ I26 : QI, I26 = q_u2 I24 62 ((4 * (I24 51 14))).toNatClampNeg a1 → (vp_in ((4 * (I26 51 14)) + 1) 24 ∧ (∀ I27 : QI, I27 = q_u2 I26 62 (((4 * (I26 51 14)) + 1)).toNatClampNeg a2 → (vp_in ((4 * (I27 51 14)) + 2) 24 ∧ (∀ I28 : QI, I28 = q_u2 I27 62 (((4 * (I27 51 14)) + 2)).toNatClampNeg a3 → (vp_in ((4 * (I28 51 14)) + 3) 24 ∧ (∀ I29 : QI, I29 = q_u2 I28 62 (((4 * (I28 51 14)) + 3)).toNatClampNeg a4 → (∀ I30 : QI, I30 = q_u2 I29 51 14 ((I29 51 14) + 1) → post (I30 51 14) I30)))))))))) ∧ (r25 = 0 → post 0 I24))))))) ∧ (a1 = a3 → (wX8_goesWell 2 I (fun r32 I31 => ((¬ r32 = 0 → (vp_in (4 * (I31 51 14)) 24 ∧ (∀ I33 : QI, I33 = q_u2 I31 62 ((4 * (I31 51 14))).toNatClampNeg a1 → (vp_in ((4 * (I33 51 14)) + 1) 24 ∧ (∀ I34 : QI, I34 = q_u2 I33 62 (((4 * (I33 51 14)) + 1)).toNatClampNeg a2 → (vp_in ((4 * (I34 51 14)) + 2) 24 ∧ (∀ I35 : QI, I35 = q_u2 I34 62 (((4 * (I34 51 14)) + 2)).toNatClampNeg a3 → (vp_in ((4 * (I35 51 14)) + 3) 24 ∧ (∀ I36 : QI, I36 = q_u2 I35 62 (((4 * (I35 51 14)) + 3)).toNatClampNeg a4 → (∀ I37 : QI, I37 = q_u2 I36 51 14 ((I36 51 14) + 1) → post (I37 51 14) I37)))))))))) ∧ (r32 = 0 → post 0 I31))))))))))))))
set_option maxRecDepth 100000 in
set_option maxHeartbeats 4000000 in
theorem s_mX8_link {X : QX} {S : QS} {a1 : Int32} {a2 : Int32} {a3 : Int32} {a4 : Int32} {I : QI} {J : QJ} {post : Int32 → QI → Prop} (hS : Sh S) (h : wX8_link a1 a2 a3 a4 I post) : CX X mX8_link 3 0 0 [.ref 51, .int a1, .int a2, .int a3, .int a4] S I J (q_Pi S (fun r I2 J2 => J = J2 ∧ post r I2)) := by
  refine CX.of (lo := [(0, .ref 51), (1, .int a1), (2, .int a2), (3, .int a3), (4, .int a4)]) ok_mX8_link rfl (Nat.le_of_ble_eq_true rfl) rfl ?_
  replace h : (wX8_isColumn a1 a2 I (fun r1 => ((r1 = 0 → (wX8_goesWell 1 I (fun r3 I2 => ((¬ r3 = 0 → (vp_in (4 * (I2 51 14)) 24 ∧ (∀ I4 : QI, I4 = q_u2 I2 62 ((4 * (I2 51 14))).toNatClampNeg a1 → (vp_in ((4 * (I4 51 14)) + 1) 24 ∧ (∀ I5 : QI, I5 = q_u2 I4 62 (((4 * (I4 51 14)) + 1)).toNatClampNeg a2 → (vp_in ((4 * (I5 51 14)) + 2) 24 ∧ (∀ I6 : QI, I6 = q_u2 I5 62 (((4 * (I5 51 14)) + 2)).toNatClampNeg a3 → (vp_in ((4 * (I6 51 14)) + 3) 24 ∧ (∀ I7 : QI, I7 = q_u2 I6 62 (((4 * (I6 51 14)) + 3)).toNatClampNeg a4 → (∀ I8 : QI, I8 = q_u2 I7 51 14 ((I7 51 14) + 1) → post (I8 51 14) I8)))))))))) ∧ (r3 = 0 → post 0 I2))))) ∧ (¬ r1 = 0 → (wX8_isColumn a3 a4 I (fun r9 => ((r9 = 0 → (wX8_goesWell 1 I (fun r11 I10 => ((¬ r11 = 0 → (vp_in (4 * (I10 51 14)) 24 ∧ (∀ I12 : QI, I12 = q_u2 I10 62 ((4 * (I10 51 14))).toNatClampNeg a1 → (vp_in ((4 * (I12 51 14)) + 1) 24 ∧ (∀ I13 : QI, I13 = q_u2 I12 62 (((4 * (I12 51 14)) + 1)).toNatClampNeg a2 → (vp_in ((4 * (I13 51 14)) + 2) 24 ∧ (∀ I14 : QI, I14 = q_u2 I13 62 (((4 * (I13 51 14)) + 2)).toNatClampNeg a3 → (vp_in ((4 * (I14 51 14)) + 3) 24 ∧ (∀ I15 : QI, I15 = q_u2 I14 62 (((4 * (I14 51 14)) + 3)).toNatClampNeg a4 → (∀ I16 : QI, I16 = q_u2 I15 51 14 ((I15 51 14) + 1) → post (I16 51 14) I16)))))))))) ∧ (r11 = 0 → post 0 I10))))) ∧ (¬ r9 = 0 → ((¬ a1 = a3 → ((¬ (I 51 14) = 6 → (wX8_goesWell 0 I (fun r18 I17 => ((¬ r18 = 0 → (vp_in (4 * (I17 51 14)) 24 ∧ (∀ I19 : QI, I19 = q_u2 I17 62 ((4 * (I17 51 14))).toNatClampNeg a1 → (vp_in ((4 * (I19 51 14)) + 1) 24 ∧ (∀ I20 : QI, I20 = q_u2 I19 62 (((4 * (I19 51 14)) + 1)).toNatClampNeg a2 → (vp_in ((4 * (I20 51 14)) + 2) 24 ∧ (∀ I21 : QI, I21 = q_u2 I20 62 (((4 * (I20 51 14)) + 2)).toNatClampNeg a3 → (vp_in ((4 * (I21 51 14)) + 3) 24 ∧ (∀ I22 : QI, I22 = q_u2 I21 62 (((4 * (I21 51 14)) + 3)).toNatClampNeg a4 → (∀ I23 : QI, I23 = q_u2 I22 51 14 ((I22 51 14) + 1) → post (I23 51 14) I23)))))))))) ∧ (r18 = 0 → post 0 I17))))) ∧ ((I 51 14) = 6 → (wX8_goesWell 3 I (fun r25 I24 => ((¬ r25 = 0 → (vp_in (4 * (I24 51 14)) 24 ∧ (∀ I26 : QI, I26 = q_u2 I24 62 ((4 * (I24 51 14))).toNatClampNeg a1 → (vp_in ((4 * (I26 51 14)) + 1) 24 ∧ (∀ I27 : QI, I27 = q_u2 I26 62 (((4 * (I26 51 14)) + 1)).toNatClampNeg a2 → (vp_in ((4 * (I27 51 14)) + 2) 24 ∧ (∀ I28 : QI, I28 = q_u2 I27 62 (((4 * (I27 51 14)) + 2)).toNatClampNeg a3 → (vp_in ((4 * (I28 51 14)) + 3) 24 ∧ (∀ I29 : QI, I29 = q_u2 I28 62 (((4 * (I28 51 14)) + 3)).toNatClampNeg a4 → (∀ I30 : QI, I30 = q_u2 I29 51 14 ((I29 51 14) + 1) → post (I30 51 14) I30)))))))))) ∧ (r25 = 0 → post 0 I24))))))) ∧ (a1 = a3 → (wX8_goesWell 2 I (fun r32 I31 => ((¬ r32 = 0 → (vp_in (4 * (I31 51 14)) 24 ∧ (∀ I33 : QI, I33 = q_u2 I31 62 ((4 * (I31 51 14))).toNatClampNeg a1 → (vp_in ((4 * (I33 51 14)) + 1) 24 ∧ (∀ I34 : QI, I34 = q_u2 I33 62 (((4 * (I33 51 14)) + 1)).toNatClampNeg a2 → (vp_in ((4 * (I34 51 14)) + 2) 24 ∧ (∀ I35 : QI, I35 = q_u2 I34 62 (((4 * (I34 51 14)) + 2)).toNatClampNeg a3 → (vp_in ((4 * (I35 51 14)) + 3) 24 ∧ (∀ I36 : QI, I36 = q_u2 I35 62 (((4 * (I35 51 14)) + 3)).toNatClampNeg a4 → (∀ I37 : QI, I37 = q_u2 I36 51 14 ((I36 51 14) + 1) → post (I37 51 14) I37)))))))))) ∧ (r32 = 0 → post 0 I31)))))))))))))) := h
  refine V_aload_n dX8_link_0 rfl rfl ?_
  refine V_iload_n dX8_link_1 rfl rfl ?_
  refine V_iload_n dX8_link_2 rfl rfl ?_
  refine V_callVi (st := []) [.int a1, .int a2] dX8_link_3 ok_mX8_isColumn rfl ml_RX8_247 in_mX8_isColumn se_mX8_isColumn (hS.n 51 rfl) (hS.k 51 8 rfl) (by decide) rfl (Nat.le_of_ble_eq_true rfl) (by decide) (by decide) (by decide) (s_mX8_isColumn hS h) (fun r1 I9 J9 h => ?_)
  obtain ⟨rfl, rfl, h⟩ := h
  refine V_if_eq 23 dX8_link_6 rfl (fun hc => ?_) (fun hc => ?_)
  · replace h := h.1 hc
    refine V_iconst (v := 0) dX8_link_23 (by decide) ?_
    refine V_istore (lo2 := [(5, .int 0), (0, .ref 51), (1, .int a1), (2, .int a2), (3, .int a3), (4, .int a4)]) dX8_link_24 (by decide) rfl ?_
    refine V_aload_n dX8_link_26 rfl rfl ?_
    refine V_iload dX8_link_27 rfl ?_
    refine V_if_ne 36 dX8_link_29 rfl (fun hc => ?_) (fun hc => ?_)
    · first | exact absurd hc (by decide) | exact absurd (by decide) hc
    · refine V_iconst (v := 1) dX8_link_32 (by decide) ?_
      refine V_goto 59 dX8_link_33 rfl ?_
      refine V_callVi (st := []) [.int 1] dX8_link_59 ok_mX8_goesWell rfl ml_RX8_112 in_mX8_goesWell se_mX8_goesWell (hS.n 51 rfl) (hS.k 51 8 rfl) (by decide) rfl (Nat.le_of_ble_eq_true rfl) (by decide) (by decide) (by decide) (s_mX8_goesWell hS h) (fun r3 I2 J9 h => ?_)
      obtain ⟨rfl, h⟩ := h
      refine V_if_ne 67 dX8_link_62 rfl (fun hc => ?_) (fun hc => ?_)
      · replace h := h.1 hc
        refine V_aload_n dX8_link_67 rfl rfl ?_
        refine V_getr dX8_link_68 fl_RX8_45 (hS.n 51 rfl) (hS.k 51 8 rfl) rfl (hS.r 51 15 62 rfl) ?_
        refine V_iconst (v := 4) dX8_link_71 (by decide) ?_
        refine V_aload_n dX8_link_72 rfl rfl ?_
        refine V_geti dX8_link_73 fl_RX8_250 (hS.n 51 rfl) (hS.k 51 8 rfl) rfl ?_
        refine V_imul dX8_link_76 ?_
        refine V_iload_n dX8_link_77 rfl rfl ?_
        obtain ⟨hb, h⟩ := h
        refine V_iast dX8_link_78 (hS.n 62 rfl) (hS.k 62 9 rfl) (by rw [(hS.z 62 24 rfl)]; exact hb) ?_
        refine V_memI (fun I4 e_I4 => ?_)
        replace h := h I4 e_I4
        refine V_aload_n dX8_link_79 rfl rfl ?_
        refine V_getr dX8_link_80 fl_RX8_45 (hS.n 51 rfl) (hS.k 51 8 rfl) rfl (hS.r 51 15 62 rfl) ?_
        refine V_iconst (v := 4) dX8_link_83 (by decide) ?_
        refine V_aload_n dX8_link_84 rfl rfl ?_
        refine V_geti dX8_link_85 fl_RX8_250 (hS.n 51 rfl) (hS.k 51 8 rfl) rfl ?_
        refine V_imul dX8_link_88 ?_
        refine V_iconst (v := 1) dX8_link_89 (by decide) ?_
        refine V_iadd dX8_link_90 ?_
        refine V_iload_n dX8_link_91 rfl rfl ?_
        obtain ⟨hb, h⟩ := h
        refine V_iast dX8_link_92 (hS.n 62 rfl) (hS.k 62 9 rfl) (by rw [(hS.z 62 24 rfl)]; exact hb) ?_
        refine V_memI (fun I5 e_I5 => ?_)
        replace h := h I5 e_I5
        refine V_aload_n dX8_link_93 rfl rfl ?_
        refine V_getr dX8_link_94 fl_RX8_45 (hS.n 51 rfl) (hS.k 51 8 rfl) rfl (hS.r 51 15 62 rfl) ?_
        refine V_iconst (v := 4) dX8_link_97 (by decide) ?_
        refine V_aload_n dX8_link_98 rfl rfl ?_
        refine V_geti dX8_link_99 fl_RX8_250 (hS.n 51 rfl) (hS.k 51 8 rfl) rfl ?_
        refine V_imul dX8_link_102 ?_
        refine V_iconst (v := 2) dX8_link_103 (by decide) ?_
        refine V_iadd dX8_link_104 ?_
        refine V_iload_n dX8_link_105 rfl rfl ?_
        obtain ⟨hb, h⟩ := h
        refine V_iast dX8_link_106 (hS.n 62 rfl) (hS.k 62 9 rfl) (by rw [(hS.z 62 24 rfl)]; exact hb) ?_
        refine V_memI (fun I6 e_I6 => ?_)
        replace h := h I6 e_I6
        refine V_aload_n dX8_link_107 rfl rfl ?_
        refine V_getr dX8_link_108 fl_RX8_45 (hS.n 51 rfl) (hS.k 51 8 rfl) rfl (hS.r 51 15 62 rfl) ?_
        refine V_iconst (v := 4) dX8_link_111 (by decide) ?_
        refine V_aload_n dX8_link_112 rfl rfl ?_
        refine V_geti dX8_link_113 fl_RX8_250 (hS.n 51 rfl) (hS.k 51 8 rfl) rfl ?_
        refine V_imul dX8_link_116 ?_
        refine V_iconst (v := 3) dX8_link_117 (by decide) ?_
        refine V_iadd dX8_link_118 ?_
        refine V_iload dX8_link_119 rfl ?_
        obtain ⟨hb, h⟩ := h
        refine V_iast dX8_link_121 (hS.n 62 rfl) (hS.k 62 9 rfl) (by rw [(hS.z 62 24 rfl)]; exact hb) ?_
        refine V_memI (fun I7 e_I7 => ?_)
        replace h := h I7 e_I7
        refine V_aload_n dX8_link_122 rfl rfl ?_
        refine V_dup dX8_link_123 rfl ?_
        refine V_geti dX8_link_124 fl_RX8_250 (hS.n 51 rfl) (hS.k 51 8 rfl) rfl ?_
        refine V_iconst (v := 1) dX8_link_127 (by decide) ?_
        refine V_iadd dX8_link_128 ?_
        refine V_puti dX8_link_129 fl_RX8_250 rfl (hS.n 51 rfl) (hS.k 51 8 rfl) rfl rfl rfl ?_
        refine V_memI (fun I8 e_I8 => ?_)
        replace h := h I8 e_I8
        refine V_aload_n dX8_link_132 rfl rfl ?_
        refine V_geti dX8_link_133 fl_RX8_250 (hS.n 51 rfl) (hS.k 51 8 rfl) rfl ?_
        exact V_iret dX8_link_136 rfl (by decide) (by decide) ⟨_, rfl, rfl, rfl, h⟩
      · replace h := h.2 hc
        refine V_iconst (v := 0) dX8_link_65 (by decide) ?_
        exact V_iret dX8_link_66 rfl (by decide) (by decide) ⟨_, rfl, rfl, rfl, h⟩
  · replace h := h.2 hc
    refine V_aload_n dX8_link_9 rfl rfl ?_
    refine V_iload_n dX8_link_10 rfl rfl ?_
    refine V_iload dX8_link_11 rfl ?_
    refine V_callVi (st := []) [.int a3, .int a4] dX8_link_13 ok_mX8_isColumn rfl ml_RX8_247 in_mX8_isColumn se_mX8_isColumn (hS.n 51 rfl) (hS.k 51 8 rfl) (by decide) rfl (Nat.le_of_ble_eq_true rfl) (by decide) (by decide) (by decide) (s_mX8_isColumn hS h) (fun r9 I9 J9 h => ?_)
    obtain ⟨rfl, rfl, h⟩ := h
    refine V_if_eq 23 dX8_link_16 rfl (fun hc => ?_) (fun hc => ?_)
    · replace h := h.1 hc
      refine V_iconst (v := 0) dX8_link_23 (by decide) ?_
      refine V_istore (lo2 := [(5, .int 0), (0, .ref 51), (1, .int a1), (2, .int a2), (3, .int a3), (4, .int a4)]) dX8_link_24 (by decide) rfl ?_
      refine V_aload_n dX8_link_26 rfl rfl ?_
      refine V_iload dX8_link_27 rfl ?_
      refine V_if_ne 36 dX8_link_29 rfl (fun hc => ?_) (fun hc => ?_)
      · first | exact absurd hc (by decide) | exact absurd (by decide) hc
      · refine V_iconst (v := 1) dX8_link_32 (by decide) ?_
        refine V_goto 59 dX8_link_33 rfl ?_
        refine V_callVi (st := []) [.int 1] dX8_link_59 ok_mX8_goesWell rfl ml_RX8_112 in_mX8_goesWell se_mX8_goesWell (hS.n 51 rfl) (hS.k 51 8 rfl) (by decide) rfl (Nat.le_of_ble_eq_true rfl) (by decide) (by decide) (by decide) (s_mX8_goesWell hS h) (fun r11 I10 J9 h => ?_)
        obtain ⟨rfl, h⟩ := h
        refine V_if_ne 67 dX8_link_62 rfl (fun hc => ?_) (fun hc => ?_)
        · replace h := h.1 hc
          refine V_aload_n dX8_link_67 rfl rfl ?_
          refine V_getr dX8_link_68 fl_RX8_45 (hS.n 51 rfl) (hS.k 51 8 rfl) rfl (hS.r 51 15 62 rfl) ?_
          refine V_iconst (v := 4) dX8_link_71 (by decide) ?_
          refine V_aload_n dX8_link_72 rfl rfl ?_
          refine V_geti dX8_link_73 fl_RX8_250 (hS.n 51 rfl) (hS.k 51 8 rfl) rfl ?_
          refine V_imul dX8_link_76 ?_
          refine V_iload_n dX8_link_77 rfl rfl ?_
          obtain ⟨hb, h⟩ := h
          refine V_iast dX8_link_78 (hS.n 62 rfl) (hS.k 62 9 rfl) (by rw [(hS.z 62 24 rfl)]; exact hb) ?_
          refine V_memI (fun I12 e_I12 => ?_)
          replace h := h I12 e_I12
          refine V_aload_n dX8_link_79 rfl rfl ?_
          refine V_getr dX8_link_80 fl_RX8_45 (hS.n 51 rfl) (hS.k 51 8 rfl) rfl (hS.r 51 15 62 rfl) ?_
          refine V_iconst (v := 4) dX8_link_83 (by decide) ?_
          refine V_aload_n dX8_link_84 rfl rfl ?_
          refine V_geti dX8_link_85 fl_RX8_250 (hS.n 51 rfl) (hS.k 51 8 rfl) rfl ?_
          refine V_imul dX8_link_88 ?_
          refine V_iconst (v := 1) dX8_link_89 (by decide) ?_
          refine V_iadd dX8_link_90 ?_
          refine V_iload_n dX8_link_91 rfl rfl ?_
          obtain ⟨hb, h⟩ := h
          refine V_iast dX8_link_92 (hS.n 62 rfl) (hS.k 62 9 rfl) (by rw [(hS.z 62 24 rfl)]; exact hb) ?_
          refine V_memI (fun I13 e_I13 => ?_)
          replace h := h I13 e_I13
          refine V_aload_n dX8_link_93 rfl rfl ?_
          refine V_getr dX8_link_94 fl_RX8_45 (hS.n 51 rfl) (hS.k 51 8 rfl) rfl (hS.r 51 15 62 rfl) ?_
          refine V_iconst (v := 4) dX8_link_97 (by decide) ?_
          refine V_aload_n dX8_link_98 rfl rfl ?_
          refine V_geti dX8_link_99 fl_RX8_250 (hS.n 51 rfl) (hS.k 51 8 rfl) rfl ?_
          refine V_imul dX8_link_102 ?_
          refine V_iconst (v := 2) dX8_link_103 (by decide) ?_
          refine V_iadd dX8_link_104 ?_
          refine V_iload_n dX8_link_105 rfl rfl ?_
          obtain ⟨hb, h⟩ := h
          refine V_iast dX8_link_106 (hS.n 62 rfl) (hS.k 62 9 rfl) (by rw [(hS.z 62 24 rfl)]; exact hb) ?_
          refine V_memI (fun I14 e_I14 => ?_)
          replace h := h I14 e_I14
          refine V_aload_n dX8_link_107 rfl rfl ?_
          refine V_getr dX8_link_108 fl_RX8_45 (hS.n 51 rfl) (hS.k 51 8 rfl) rfl (hS.r 51 15 62 rfl) ?_
          refine V_iconst (v := 4) dX8_link_111 (by decide) ?_
          refine V_aload_n dX8_link_112 rfl rfl ?_
          refine V_geti dX8_link_113 fl_RX8_250 (hS.n 51 rfl) (hS.k 51 8 rfl) rfl ?_
          refine V_imul dX8_link_116 ?_
          refine V_iconst (v := 3) dX8_link_117 (by decide) ?_
          refine V_iadd dX8_link_118 ?_
          refine V_iload dX8_link_119 rfl ?_
          obtain ⟨hb, h⟩ := h
          refine V_iast dX8_link_121 (hS.n 62 rfl) (hS.k 62 9 rfl) (by rw [(hS.z 62 24 rfl)]; exact hb) ?_
          refine V_memI (fun I15 e_I15 => ?_)
          replace h := h I15 e_I15
          refine V_aload_n dX8_link_122 rfl rfl ?_
          refine V_dup dX8_link_123 rfl ?_
          refine V_geti dX8_link_124 fl_RX8_250 (hS.n 51 rfl) (hS.k 51 8 rfl) rfl ?_
          refine V_iconst (v := 1) dX8_link_127 (by decide) ?_
          refine V_iadd dX8_link_128 ?_
          refine V_puti dX8_link_129 fl_RX8_250 rfl (hS.n 51 rfl) (hS.k 51 8 rfl) rfl rfl rfl ?_
          refine V_memI (fun I16 e_I16 => ?_)
          replace h := h I16 e_I16
          refine V_aload_n dX8_link_132 rfl rfl ?_
          refine V_geti dX8_link_133 fl_RX8_250 (hS.n 51 rfl) (hS.k 51 8 rfl) rfl ?_
          exact V_iret dX8_link_136 rfl (by decide) (by decide) ⟨_, rfl, rfl, rfl, h⟩
        · replace h := h.2 hc
          refine V_iconst (v := 0) dX8_link_65 (by decide) ?_
          exact V_iret dX8_link_66 rfl (by decide) (by decide) ⟨_, rfl, rfl, rfl, h⟩
    · replace h := h.2 hc
      refine V_iconst (v := 1) dX8_link_19 (by decide) ?_
      refine V_goto 24 dX8_link_20 rfl ?_
      refine V_istore (lo2 := [(5, .int 1), (0, .ref 51), (1, .int a1), (2, .int a2), (3, .int a3), (4, .int a4)]) dX8_link_24 (by decide) rfl ?_
      refine V_aload_n dX8_link_26 rfl rfl ?_
      refine V_iload dX8_link_27 rfl ?_
      refine V_if_ne 36 dX8_link_29 rfl (fun hc => ?_) (fun hc => ?_)
      · refine V_iload_n dX8_link_36 rfl rfl ?_
        refine V_iload_n dX8_link_37 rfl rfl ?_
        refine V_icmp_ne 45 dX8_link_38 rfl (fun hc => ?_) (fun hc => ?_)
        · replace h := h.1 hc
          refine V_aload_n dX8_link_45 rfl rfl ?_
          refine V_geti dX8_link_46 fl_RX8_250 (hS.n 51 rfl) (hS.k 51 8 rfl) rfl ?_
          refine V_bipush (v := 6) dX8_link_49 (by decide) ?_
          refine V_icmp_ne 58 dX8_link_51 rfl (fun hc => ?_) (fun hc => ?_)
          · replace h := h.1 hc
            refine V_iconst (v := 0) dX8_link_58 (by decide) ?_
            refine V_callVi (st := []) [.int 0] dX8_link_59 ok_mX8_goesWell rfl ml_RX8_112 in_mX8_goesWell se_mX8_goesWell (hS.n 51 rfl) (hS.k 51 8 rfl) (by decide) rfl (Nat.le_of_ble_eq_true rfl) (by decide) (by decide) (by decide) (s_mX8_goesWell hS h) (fun r18 I17 J9 h => ?_)
            obtain ⟨rfl, h⟩ := h
            refine V_if_ne 67 dX8_link_62 rfl (fun hc => ?_) (fun hc => ?_)
            · replace h := h.1 hc
              refine V_aload_n dX8_link_67 rfl rfl ?_
              refine V_getr dX8_link_68 fl_RX8_45 (hS.n 51 rfl) (hS.k 51 8 rfl) rfl (hS.r 51 15 62 rfl) ?_
              refine V_iconst (v := 4) dX8_link_71 (by decide) ?_
              refine V_aload_n dX8_link_72 rfl rfl ?_
              refine V_geti dX8_link_73 fl_RX8_250 (hS.n 51 rfl) (hS.k 51 8 rfl) rfl ?_
              refine V_imul dX8_link_76 ?_
              refine V_iload_n dX8_link_77 rfl rfl ?_
              obtain ⟨hb, h⟩ := h
              refine V_iast dX8_link_78 (hS.n 62 rfl) (hS.k 62 9 rfl) (by rw [(hS.z 62 24 rfl)]; exact hb) ?_
              refine V_memI (fun I19 e_I19 => ?_)
              replace h := h I19 e_I19
              refine V_aload_n dX8_link_79 rfl rfl ?_
              refine V_getr dX8_link_80 fl_RX8_45 (hS.n 51 rfl) (hS.k 51 8 rfl) rfl (hS.r 51 15 62 rfl) ?_
              refine V_iconst (v := 4) dX8_link_83 (by decide) ?_
              refine V_aload_n dX8_link_84 rfl rfl ?_
              refine V_geti dX8_link_85 fl_RX8_250 (hS.n 51 rfl) (hS.k 51 8 rfl) rfl ?_
              refine V_imul dX8_link_88 ?_
              refine V_iconst (v := 1) dX8_link_89 (by decide) ?_
              refine V_iadd dX8_link_90 ?_
              refine V_iload_n dX8_link_91 rfl rfl ?_
              obtain ⟨hb, h⟩ := h
              refine V_iast dX8_link_92 (hS.n 62 rfl) (hS.k 62 9 rfl) (by rw [(hS.z 62 24 rfl)]; exact hb) ?_
              refine V_memI (fun I20 e_I20 => ?_)
              replace h := h I20 e_I20
              refine V_aload_n dX8_link_93 rfl rfl ?_
              refine V_getr dX8_link_94 fl_RX8_45 (hS.n 51 rfl) (hS.k 51 8 rfl) rfl (hS.r 51 15 62 rfl) ?_
              refine V_iconst (v := 4) dX8_link_97 (by decide) ?_
              refine V_aload_n dX8_link_98 rfl rfl ?_
              refine V_geti dX8_link_99 fl_RX8_250 (hS.n 51 rfl) (hS.k 51 8 rfl) rfl ?_
              refine V_imul dX8_link_102 ?_
              refine V_iconst (v := 2) dX8_link_103 (by decide) ?_
              refine V_iadd dX8_link_104 ?_
              refine V_iload_n dX8_link_105 rfl rfl ?_
              obtain ⟨hb, h⟩ := h
              refine V_iast dX8_link_106 (hS.n 62 rfl) (hS.k 62 9 rfl) (by rw [(hS.z 62 24 rfl)]; exact hb) ?_
              refine V_memI (fun I21 e_I21 => ?_)
              replace h := h I21 e_I21
              refine V_aload_n dX8_link_107 rfl rfl ?_
              refine V_getr dX8_link_108 fl_RX8_45 (hS.n 51 rfl) (hS.k 51 8 rfl) rfl (hS.r 51 15 62 rfl) ?_
              refine V_iconst (v := 4) dX8_link_111 (by decide) ?_
              refine V_aload_n dX8_link_112 rfl rfl ?_
              refine V_geti dX8_link_113 fl_RX8_250 (hS.n 51 rfl) (hS.k 51 8 rfl) rfl ?_
              refine V_imul dX8_link_116 ?_
              refine V_iconst (v := 3) dX8_link_117 (by decide) ?_
              refine V_iadd dX8_link_118 ?_
              refine V_iload dX8_link_119 rfl ?_
              obtain ⟨hb, h⟩ := h
              refine V_iast dX8_link_121 (hS.n 62 rfl) (hS.k 62 9 rfl) (by rw [(hS.z 62 24 rfl)]; exact hb) ?_
              refine V_memI (fun I22 e_I22 => ?_)
              replace h := h I22 e_I22
              refine V_aload_n dX8_link_122 rfl rfl ?_
              refine V_dup dX8_link_123 rfl ?_
              refine V_geti dX8_link_124 fl_RX8_250 (hS.n 51 rfl) (hS.k 51 8 rfl) rfl ?_
              refine V_iconst (v := 1) dX8_link_127 (by decide) ?_
              refine V_iadd dX8_link_128 ?_
              refine V_puti dX8_link_129 fl_RX8_250 rfl (hS.n 51 rfl) (hS.k 51 8 rfl) rfl rfl rfl ?_
              refine V_memI (fun I23 e_I23 => ?_)
              replace h := h I23 e_I23
              refine V_aload_n dX8_link_132 rfl rfl ?_
              refine V_geti dX8_link_133 fl_RX8_250 (hS.n 51 rfl) (hS.k 51 8 rfl) rfl ?_
              exact V_iret dX8_link_136 rfl (by decide) (by decide) ⟨_, rfl, rfl, rfl, h⟩
            · replace h := h.2 hc
              refine V_iconst (v := 0) dX8_link_65 (by decide) ?_
              exact V_iret dX8_link_66 rfl (by decide) (by decide) ⟨_, rfl, rfl, rfl, h⟩
          · replace h := h.2 hc
            refine V_iconst (v := 3) dX8_link_54 (by decide) ?_
            refine V_goto 59 dX8_link_55 rfl ?_
            refine V_callVi (st := []) [.int 3] dX8_link_59 ok_mX8_goesWell rfl ml_RX8_112 in_mX8_goesWell se_mX8_goesWell (hS.n 51 rfl) (hS.k 51 8 rfl) (by decide) rfl (Nat.le_of_ble_eq_true rfl) (by decide) (by decide) (by decide) (s_mX8_goesWell hS h) (fun r25 I24 J9 h => ?_)
            obtain ⟨rfl, h⟩ := h
            refine V_if_ne 67 dX8_link_62 rfl (fun hc => ?_) (fun hc => ?_)
            · replace h := h.1 hc
              refine V_aload_n dX8_link_67 rfl rfl ?_
              refine V_getr dX8_link_68 fl_RX8_45 (hS.n 51 rfl) (hS.k 51 8 rfl) rfl (hS.r 51 15 62 rfl) ?_
              refine V_iconst (v := 4) dX8_link_71 (by decide) ?_
              refine V_aload_n dX8_link_72 rfl rfl ?_
              refine V_geti dX8_link_73 fl_RX8_250 (hS.n 51 rfl) (hS.k 51 8 rfl) rfl ?_
              refine V_imul dX8_link_76 ?_
              refine V_iload_n dX8_link_77 rfl rfl ?_
              obtain ⟨hb, h⟩ := h
              refine V_iast dX8_link_78 (hS.n 62 rfl) (hS.k 62 9 rfl) (by rw [(hS.z 62 24 rfl)]; exact hb) ?_
              refine V_memI (fun I26 e_I26 => ?_)
              replace h := h I26 e_I26
              refine V_aload_n dX8_link_79 rfl rfl ?_
              refine V_getr dX8_link_80 fl_RX8_45 (hS.n 51 rfl) (hS.k 51 8 rfl) rfl (hS.r 51 15 62 rfl) ?_
              refine V_iconst (v := 4) dX8_link_83 (by decide) ?_
              refine V_aload_n dX8_link_84 rfl rfl ?_
              refine V_geti dX8_link_85 fl_RX8_250 (hS.n 51 rfl) (hS.k 51 8 rfl) rfl ?_
              refine V_imul dX8_link_88 ?_
              refine V_iconst (v := 1) dX8_link_89 (by decide) ?_
              refine V_iadd dX8_link_90 ?_
              refine V_iload_n dX8_link_91 rfl rfl ?_
              obtain ⟨hb, h⟩ := h
              refine V_iast dX8_link_92 (hS.n 62 rfl) (hS.k 62 9 rfl) (by rw [(hS.z 62 24 rfl)]; exact hb) ?_
              refine V_memI (fun I27 e_I27 => ?_)
              replace h := h I27 e_I27
              refine V_aload_n dX8_link_93 rfl rfl ?_
              refine V_getr dX8_link_94 fl_RX8_45 (hS.n 51 rfl) (hS.k 51 8 rfl) rfl (hS.r 51 15 62 rfl) ?_
              refine V_iconst (v := 4) dX8_link_97 (by decide) ?_
              refine V_aload_n dX8_link_98 rfl rfl ?_
              refine V_geti dX8_link_99 fl_RX8_250 (hS.n 51 rfl) (hS.k 51 8 rfl) rfl ?_
              refine V_imul dX8_link_102 ?_
              refine V_iconst (v := 2) dX8_link_103 (by decide) ?_
              refine V_iadd dX8_link_104 ?_
              refine V_iload_n dX8_link_105 rfl rfl ?_
              obtain ⟨hb, h⟩ := h
              refine V_iast dX8_link_106 (hS.n 62 rfl) (hS.k 62 9 rfl) (by rw [(hS.z 62 24 rfl)]; exact hb) ?_
              refine V_memI (fun I28 e_I28 => ?_)
              replace h := h I28 e_I28
              refine V_aload_n dX8_link_107 rfl rfl ?_
              refine V_getr dX8_link_108 fl_RX8_45 (hS.n 51 rfl) (hS.k 51 8 rfl) rfl (hS.r 51 15 62 rfl) ?_
              refine V_iconst (v := 4) dX8_link_111 (by decide) ?_
              refine V_aload_n dX8_link_112 rfl rfl ?_
              refine V_geti dX8_link_113 fl_RX8_250 (hS.n 51 rfl) (hS.k 51 8 rfl) rfl ?_
              refine V_imul dX8_link_116 ?_
              refine V_iconst (v := 3) dX8_link_117 (by decide) ?_
              refine V_iadd dX8_link_118 ?_
              refine V_iload dX8_link_119 rfl ?_
              obtain ⟨hb, h⟩ := h
              refine V_iast dX8_link_121 (hS.n 62 rfl) (hS.k 62 9 rfl) (by rw [(hS.z 62 24 rfl)]; exact hb) ?_
              refine V_memI (fun I29 e_I29 => ?_)
              replace h := h I29 e_I29
              refine V_aload_n dX8_link_122 rfl rfl ?_
              refine V_dup dX8_link_123 rfl ?_
              refine V_geti dX8_link_124 fl_RX8_250 (hS.n 51 rfl) (hS.k 51 8 rfl) rfl ?_
              refine V_iconst (v := 1) dX8_link_127 (by decide) ?_
              refine V_iadd dX8_link_128 ?_
              refine V_puti dX8_link_129 fl_RX8_250 rfl (hS.n 51 rfl) (hS.k 51 8 rfl) rfl rfl rfl ?_
              refine V_memI (fun I30 e_I30 => ?_)
              replace h := h I30 e_I30
              refine V_aload_n dX8_link_132 rfl rfl ?_
              refine V_geti dX8_link_133 fl_RX8_250 (hS.n 51 rfl) (hS.k 51 8 rfl) rfl ?_
              exact V_iret dX8_link_136 rfl (by decide) (by decide) ⟨_, rfl, rfl, rfl, h⟩
            · replace h := h.2 hc
              refine V_iconst (v := 0) dX8_link_65 (by decide) ?_
              exact V_iret dX8_link_66 rfl (by decide) (by decide) ⟨_, rfl, rfl, rfl, h⟩
        · replace h := h.2 hc
          refine V_iconst (v := 2) dX8_link_41 (by decide) ?_
          refine V_goto 59 dX8_link_42 rfl ?_
          refine V_callVi (st := []) [.int 2] dX8_link_59 ok_mX8_goesWell rfl ml_RX8_112 in_mX8_goesWell se_mX8_goesWell (hS.n 51 rfl) (hS.k 51 8 rfl) (by decide) rfl (Nat.le_of_ble_eq_true rfl) (by decide) (by decide) (by decide) (s_mX8_goesWell hS h) (fun r32 I31 J9 h => ?_)
          obtain ⟨rfl, h⟩ := h
          refine V_if_ne 67 dX8_link_62 rfl (fun hc => ?_) (fun hc => ?_)
          · replace h := h.1 hc
            refine V_aload_n dX8_link_67 rfl rfl ?_
            refine V_getr dX8_link_68 fl_RX8_45 (hS.n 51 rfl) (hS.k 51 8 rfl) rfl (hS.r 51 15 62 rfl) ?_
            refine V_iconst (v := 4) dX8_link_71 (by decide) ?_
            refine V_aload_n dX8_link_72 rfl rfl ?_
            refine V_geti dX8_link_73 fl_RX8_250 (hS.n 51 rfl) (hS.k 51 8 rfl) rfl ?_
            refine V_imul dX8_link_76 ?_
            refine V_iload_n dX8_link_77 rfl rfl ?_
            obtain ⟨hb, h⟩ := h
            refine V_iast dX8_link_78 (hS.n 62 rfl) (hS.k 62 9 rfl) (by rw [(hS.z 62 24 rfl)]; exact hb) ?_
            refine V_memI (fun I33 e_I33 => ?_)
            replace h := h I33 e_I33
            refine V_aload_n dX8_link_79 rfl rfl ?_
            refine V_getr dX8_link_80 fl_RX8_45 (hS.n 51 rfl) (hS.k 51 8 rfl) rfl (hS.r 51 15 62 rfl) ?_
            refine V_iconst (v := 4) dX8_link_83 (by decide) ?_
            refine V_aload_n dX8_link_84 rfl rfl ?_
            refine V_geti dX8_link_85 fl_RX8_250 (hS.n 51 rfl) (hS.k 51 8 rfl) rfl ?_
            refine V_imul dX8_link_88 ?_
            refine V_iconst (v := 1) dX8_link_89 (by decide) ?_
            refine V_iadd dX8_link_90 ?_
            refine V_iload_n dX8_link_91 rfl rfl ?_
            obtain ⟨hb, h⟩ := h
            refine V_iast dX8_link_92 (hS.n 62 rfl) (hS.k 62 9 rfl) (by rw [(hS.z 62 24 rfl)]; exact hb) ?_
            refine V_memI (fun I34 e_I34 => ?_)
            replace h := h I34 e_I34
            refine V_aload_n dX8_link_93 rfl rfl ?_
            refine V_getr dX8_link_94 fl_RX8_45 (hS.n 51 rfl) (hS.k 51 8 rfl) rfl (hS.r 51 15 62 rfl) ?_
            refine V_iconst (v := 4) dX8_link_97 (by decide) ?_
            refine V_aload_n dX8_link_98 rfl rfl ?_
            refine V_geti dX8_link_99 fl_RX8_250 (hS.n 51 rfl) (hS.k 51 8 rfl) rfl ?_
            refine V_imul dX8_link_102 ?_
            refine V_iconst (v := 2) dX8_link_103 (by decide) ?_
            refine V_iadd dX8_link_104 ?_
            refine V_iload_n dX8_link_105 rfl rfl ?_
            obtain ⟨hb, h⟩ := h
            refine V_iast dX8_link_106 (hS.n 62 rfl) (hS.k 62 9 rfl) (by rw [(hS.z 62 24 rfl)]; exact hb) ?_
            refine V_memI (fun I35 e_I35 => ?_)
            replace h := h I35 e_I35
            refine V_aload_n dX8_link_107 rfl rfl ?_
            refine V_getr dX8_link_108 fl_RX8_45 (hS.n 51 rfl) (hS.k 51 8 rfl) rfl (hS.r 51 15 62 rfl) ?_
            refine V_iconst (v := 4) dX8_link_111 (by decide) ?_
            refine V_aload_n dX8_link_112 rfl rfl ?_
            refine V_geti dX8_link_113 fl_RX8_250 (hS.n 51 rfl) (hS.k 51 8 rfl) rfl ?_
            refine V_imul dX8_link_116 ?_
            refine V_iconst (v := 3) dX8_link_117 (by decide) ?_
            refine V_iadd dX8_link_118 ?_
            refine V_iload dX8_link_119 rfl ?_
            obtain ⟨hb, h⟩ := h
            refine V_iast dX8_link_121 (hS.n 62 rfl) (hS.k 62 9 rfl) (by rw [(hS.z 62 24 rfl)]; exact hb) ?_
            refine V_memI (fun I36 e_I36 => ?_)
            replace h := h I36 e_I36
            refine V_aload_n dX8_link_122 rfl rfl ?_
            refine V_dup dX8_link_123 rfl ?_
            refine V_geti dX8_link_124 fl_RX8_250 (hS.n 51 rfl) (hS.k 51 8 rfl) rfl ?_
            refine V_iconst (v := 1) dX8_link_127 (by decide) ?_
            refine V_iadd dX8_link_128 ?_
            refine V_puti dX8_link_129 fl_RX8_250 rfl (hS.n 51 rfl) (hS.k 51 8 rfl) rfl rfl rfl ?_
            refine V_memI (fun I37 e_I37 => ?_)
            replace h := h I37 e_I37
            refine V_aload_n dX8_link_132 rfl rfl ?_
            refine V_geti dX8_link_133 fl_RX8_250 (hS.n 51 rfl) (hS.k 51 8 rfl) rfl ?_
            exact V_iret dX8_link_136 rfl (by decide) (by decide) ⟨_, rfl, rfl, rfl, h⟩
          · replace h := h.2 hc
            refine V_iconst (v := 0) dX8_link_65 (by decide) ?_
            exact V_iret dX8_link_66 rfl (by decide) (by decide) ⟨_, rfl, rfl, rfl, h⟩
      · first | exact absurd hc (by decide) | exact absurd (by decide) hc
def wX8_unlikeValues_40 (a1 : Int32) (a2 : Int32) (I : QI) (K84 : Int32 → Int32 → Int32 → Prop) (post : Int32 → Prop) : Nat → Int32 → Int32 → Int32 → Int32 → Prop
  | 0, _, _, _, _ => False
  | n + 1, x3, x4, x5, x6 => ((x4 ≤ x6 → (K84 x3 x4 x5)) ∧ (¬ x4 ≤ x6 → ((x5 = 0 → (∀ v2 : Int32, v2 = (x6 + 1) → (wX8_unlikeValues_40 a1 a2 I K84 post n x3 x4 0 v2))) ∧ (¬ x5 = 0 → (wX8_at a1 x6 a2 I (fun r3 => (wX8_at a1 x4 a2 I (fun r4 => ((r3 = r4 → (∀ v5 : Int32, v5 = (x6 + 1) → (wX8_unlikeValues_40 a1 a2 I K84 post n x3 x4 0 v5))) ∧ (¬ r3 = r4 → (∀ v6 : Int32, v6 = (x6 + 1) → (wX8_unlikeValues_40 a1 a2 I K84 post n x3 x4 1 v6))))))))))))
set_option maxRecDepth 100000 in
set_option maxHeartbeats 4000000 in
theorem swX8_unlikeValues_40 {X : QX} {S : QS} {a1 : Int32} {a2 : Int32} {I : QI} {J : QJ} {K84 : Int32 → Int32 → Int32 → Prop} {post : Int32 → Prop} (hS : Sh S) (hK84 : ∀ (z3 : Int32) (z4 : Int32) (z5 : Int32), K84 z3 z4 z5 → V X mX8_unlikeValues 1 0 0 (q_Pi S (fun r I2 J2 => I = I2 ∧ J = J2 ∧ post r)) 84 [(0, .ref 51), (1, .int a1), (2, .int a2), (3, .int z3), (4, .int z4), (5, .int z5)] [] S I J 0 0) : ∀ (f : Nat) (x3 : Int32) (x4 : Int32) (x5 : Int32) (x6 : Int32), wX8_unlikeValues_40 a1 a2 I K84 post f x3 x4 x5 x6 → V X mX8_unlikeValues 1 0 0 (q_Pi S (fun r I2 J2 => I = I2 ∧ J = J2 ∧ post r)) 40 [(0, .ref 51), (1, .int a1), (2, .int a2), (3, .int x3), (4, .int x4), (5, .int x5), (6, .int x6)] [] S I J 0 0 := by
  intro f
  induction f with
  | zero => intro x3 x4 x5 x6 h; exact h.elim
  | succ n ih =>
    intro x3 x4 x5 x6 h
    replace h : ((x4 ≤ x6 → (K84 x3 x4 x5)) ∧ (¬ x4 ≤ x6 → ((x5 = 0 → (∀ v2 : Int32, v2 = (x6 + 1) → (wX8_unlikeValues_40 a1 a2 I K84 post n x3 x4 0 v2))) ∧ (¬ x5 = 0 → (wX8_at a1 x6 a2 I (fun r3 => (wX8_at a1 x4 a2 I (fun r4 => ((r3 = r4 → (∀ v5 : Int32, v5 = (x6 + 1) → (wX8_unlikeValues_40 a1 a2 I K84 post n x3 x4 0 v5))) ∧ (¬ r3 = r4 → (∀ v6 : Int32, v6 = (x6 + 1) → (wX8_unlikeValues_40 a1 a2 I K84 post n x3 x4 1 v6)))))))))))) := h
    refine V_iload dX8_unlikeValues_40 rfl ?_
    refine V_iload dX8_unlikeValues_42 rfl ?_
    refine V_icmp_ge 84 dX8_unlikeValues_44 rfl (fun hc => ?_) (fun hc => ?_)
    · replace h := h.1 hc
      refine V_sub (lo2 := [(0, .ref 51), (1, .int a1), (2, .int a2), (3, .int x3), (4, .int x4), (5, .int x5)]) [0, 1, 2, 3, 4, 5] rfl ?_
      exact hK84 _ _ _ h
    · replace h := h.2 hc
      refine V_iload dX8_unlikeValues_47 rfl ?_
      refine V_if_eq 75 dX8_unlikeValues_49 rfl (fun hc => ?_) (fun hc => ?_)
      · replace h := h.1 hc
        refine V_iconst (v := 0) dX8_unlikeValues_75 (by decide) ?_
        refine V_istore (lo2 := [(5, .int 0), (0, .ref 51), (1, .int a1), (2, .int a2), (3, .int x3), (4, .int x4), (6, .int x6)]) dX8_unlikeValues_76 (by decide) rfl ?_
        obtain ⟨v2, e_v2⟩ : ∃ z : Int32, z = (x6 + 1) := ⟨_, rfl⟩
        replace h := h v2 e_v2
        refine V_iinc (lo2 := [(6, .int v2), (5, .int 0), (0, .ref 51), (1, .int a1), (2, .int a2), (3, .int x3), (4, .int x4)]) 6 dX8_unlikeValues_78 rfl (v := v2) (by rw [e_v2]; first | done | rfl) (by decide) rfl ?_
        refine V_goto 40 dX8_unlikeValues_81 rfl ?_
        refine V_sub (lo2 := [(0, .ref 51), (1, .int a1), (2, .int a2), (3, .int x3), (4, .int x4), (5, .int 0), (6, .int v2)]) [2, 3, 4, 5, 6, 1, 0] rfl ?_
        exact ih _ _ _ _ h
      · replace h := h.2 hc
        refine V_aload_n dX8_unlikeValues_52 rfl rfl ?_
        refine V_iload_n dX8_unlikeValues_53 rfl rfl ?_
        refine V_iload dX8_unlikeValues_54 rfl ?_
        refine V_iload_n dX8_unlikeValues_56 rfl rfl ?_
        refine V_callVi (st := []) [.int a1, .int x6, .int a2] dX8_unlikeValues_57 ok_mX8_at rfl ml_RX8_152 in_mX8_at se_mX8_at (hS.n 51 rfl) (hS.k 51 8 rfl) (by decide) rfl (Nat.le_of_ble_eq_true rfl) (by decide) (by decide) (by decide) (s_mX8_at hS h) (fun r3 I9 J9 h => ?_)
        obtain ⟨rfl, rfl, h⟩ := h
        refine V_aload_n dX8_unlikeValues_60 rfl rfl ?_
        refine V_iload_n dX8_unlikeValues_61 rfl rfl ?_
        refine V_iload dX8_unlikeValues_62 rfl ?_
        refine V_iload_n dX8_unlikeValues_64 rfl rfl ?_
        refine V_callVi (st := [.int r3]) [.int a1, .int x4, .int a2] dX8_unlikeValues_65 ok_mX8_at rfl ml_RX8_152 in_mX8_at se_mX8_at (hS.n 51 rfl) (hS.k 51 8 rfl) (by decide) rfl (Nat.le_of_ble_eq_true rfl) (by decide) (by decide) (by decide) (s_mX8_at hS h) (fun r4 I9 J9 h => ?_)
        obtain ⟨rfl, rfl, h⟩ := h
        refine V_icmp_eq 75 dX8_unlikeValues_68 rfl (fun hc => ?_) (fun hc => ?_)
        · replace h := h.1 hc
          refine V_iconst (v := 0) dX8_unlikeValues_75 (by decide) ?_
          refine V_istore (lo2 := [(5, .int 0), (0, .ref 51), (1, .int a1), (2, .int a2), (3, .int x3), (4, .int x4), (6, .int x6)]) dX8_unlikeValues_76 (by decide) rfl ?_
          obtain ⟨v5, e_v5⟩ : ∃ z : Int32, z = (x6 + 1) := ⟨_, rfl⟩
          replace h := h v5 e_v5
          refine V_iinc (lo2 := [(6, .int v5), (5, .int 0), (0, .ref 51), (1, .int a1), (2, .int a2), (3, .int x3), (4, .int x4)]) 6 dX8_unlikeValues_78 rfl (v := v5) (by rw [e_v5]; first | done | rfl) (by decide) rfl ?_
          refine V_goto 40 dX8_unlikeValues_81 rfl ?_
          refine V_sub (lo2 := [(0, .ref 51), (1, .int a1), (2, .int a2), (3, .int x3), (4, .int x4), (5, .int 0), (6, .int v5)]) [2, 3, 4, 5, 6, 1, 0] rfl ?_
          exact ih _ _ _ _ h
        · replace h := h.2 hc
          refine V_iconst (v := 1) dX8_unlikeValues_71 (by decide) ?_
          refine V_goto 76 dX8_unlikeValues_72 rfl ?_
          refine V_istore (lo2 := [(5, .int 1), (0, .ref 51), (1, .int a1), (2, .int a2), (3, .int x3), (4, .int x4), (6, .int x6)]) dX8_unlikeValues_76 (by decide) rfl ?_
          obtain ⟨v6, e_v6⟩ : ∃ z : Int32, z = (x6 + 1) := ⟨_, rfl⟩
          replace h := h v6 e_v6
          refine V_iinc (lo2 := [(6, .int v6), (5, .int 1), (0, .ref 51), (1, .int a1), (2, .int a2), (3, .int x3), (4, .int x4)]) 6 dX8_unlikeValues_78 rfl (v := v6) (by rw [e_v6]; first | done | rfl) (by decide) rfl ?_
          refine V_goto 40 dX8_unlikeValues_81 rfl ?_
          refine V_sub (lo2 := [(0, .ref 51), (1, .int a1), (2, .int a2), (3, .int x3), (4, .int x4), (5, .int 1), (6, .int v6)]) [2, 3, 4, 5, 6, 1, 0] rfl ?_
          exact ih _ _ _ _ h
def wX8_unlikeValues_5 (a1 : Int32) (a2 : Int32) (I : QI) (K103 : Int32 → Prop) (post : Int32 → Prop) : Nat → Int32 → Int32 → Prop
  | 0, _, _ => False
  | n + 1, x3, x4 => (vp_in a1 4 ∧ (((I 53 (a1).toNatClampNeg) ≤ x4 → (K103 x3)) ∧ (¬ (I 53 (a1).toNatClampNeg) ≤ x4 → (wX8_at a1 x4 a2 I (fun r1 => ((r1 = (-1000) → (∃ f : Nat, wX8_unlikeValues_40 a1 a2 I (fun u7 u8 u9 => ((u9 = 0 → (∀ v10 : Int32, v10 = (u7 + 0) → (∀ v11 : Int32, v11 = (u8 + 1) → (wX8_unlikeValues_5 a1 a2 I K103 post n v10 v11)))) ∧ (¬ u9 = 0 → (∀ v12 : Int32, v12 = (u7 + 1) → (∀ v13 : Int32, v13 = (u8 + 1) → (wX8_unlikeValues_5 a1 a2 I K103 post n v12 v13)))))) post f x3 x4 0 0)) ∧ (¬ r1 = (-1000) → (∃ f : Nat, wX8_unlikeValues_40 a1 a2 I (fun u14 u15 u16 => ((u16 = 0 → (∀ v17 : Int32, v17 = (u14 + 0) → (∀ v18 : Int32, v18 = (u15 + 1) → (wX8_unlikeValues_5 a1 a2 I K103 post n v17 v18)))) ∧ (¬ u16 = 0 → (∀ v19 : Int32, v19 = (u14 + 1) → (∀ v20 : Int32, v20 = (u15 + 1) → (wX8_unlikeValues_5 a1 a2 I K103 post n v19 v20)))))) post f x3 x4 1 0))))))))
set_option maxRecDepth 100000 in
set_option maxHeartbeats 4000000 in
theorem swX8_unlikeValues_5 {X : QX} {S : QS} {a1 : Int32} {a2 : Int32} {I : QI} {J : QJ} {K103 : Int32 → Prop} {post : Int32 → Prop} (hS : Sh S) (hK103 : ∀ (z3 : Int32), K103 z3 → V X mX8_unlikeValues 1 0 0 (q_Pi S (fun r I2 J2 => I = I2 ∧ J = J2 ∧ post r)) 103 [(3, .int z3)] [] S I J 0 0) : ∀ (f : Nat) (x3 : Int32) (x4 : Int32), wX8_unlikeValues_5 a1 a2 I K103 post f x3 x4 → V X mX8_unlikeValues 1 0 0 (q_Pi S (fun r I2 J2 => I = I2 ∧ J = J2 ∧ post r)) 5 [(0, .ref 51), (1, .int a1), (2, .int a2), (3, .int x3), (4, .int x4)] [] S I J 0 0 := by
  intro f
  induction f with
  | zero => intro x3 x4 h; exact h.elim
  | succ n ih =>
    intro x3 x4 h
    replace h : (vp_in a1 4 ∧ (((I 53 (a1).toNatClampNeg) ≤ x4 → (K103 x3)) ∧ (¬ (I 53 (a1).toNatClampNeg) ≤ x4 → (wX8_at a1 x4 a2 I (fun r1 => ((r1 = (-1000) → (∃ f : Nat, wX8_unlikeValues_40 a1 a2 I (fun u7 u8 u9 => ((u9 = 0 → (∀ v10 : Int32, v10 = (u7 + 0) → (∀ v11 : Int32, v11 = (u8 + 1) → (wX8_unlikeValues_5 a1 a2 I K103 post n v10 v11)))) ∧ (¬ u9 = 0 → (∀ v12 : Int32, v12 = (u7 + 1) → (∀ v13 : Int32, v13 = (u8 + 1) → (wX8_unlikeValues_5 a1 a2 I K103 post n v12 v13)))))) post f x3 x4 0 0)) ∧ (¬ r1 = (-1000) → (∃ f : Nat, wX8_unlikeValues_40 a1 a2 I (fun u14 u15 u16 => ((u16 = 0 → (∀ v17 : Int32, v17 = (u14 + 0) → (∀ v18 : Int32, v18 = (u15 + 1) → (wX8_unlikeValues_5 a1 a2 I K103 post n v17 v18)))) ∧ (¬ u16 = 0 → (∀ v19 : Int32, v19 = (u14 + 1) → (∀ v20 : Int32, v20 = (u15 + 1) → (wX8_unlikeValues_5 a1 a2 I K103 post n v19 v20)))))) post f x3 x4 1 0)))))))) := h
    refine V_iload dX8_unlikeValues_5 rfl ?_
    refine V_aload_n dX8_unlikeValues_7 rfl rfl ?_
    refine V_getr dX8_unlikeValues_8 fl_RX8_13 (hS.n 51 rfl) (hS.k 51 8 rfl) rfl (hS.r 51 3 53 rfl) ?_
    refine V_iload_n dX8_unlikeValues_11 rfl rfl ?_
    obtain ⟨hb, h⟩ := h
    refine V_iald dX8_unlikeValues_12 (hS.n 53 rfl) (hS.k 53 9 rfl) (by rw [(hS.z 53 4 rfl)]; exact hb) ?_
    refine V_icmp_ge 103 dX8_unlikeValues_13 rfl (fun hc => ?_) (fun hc => ?_)
    · replace h := h.1 hc
      refine V_sub (lo2 := [(3, .int x3)]) [3] rfl ?_
      exact hK103 _ h
    · replace h := h.2 hc
      refine V_aload_n dX8_unlikeValues_16 rfl rfl ?_
      refine V_iload_n dX8_unlikeValues_17 rfl rfl ?_
      refine V_iload dX8_unlikeValues_18 rfl ?_
      refine V_iload_n dX8_unlikeValues_20 rfl rfl ?_
      refine V_callVi (st := []) [.int a1, .int x4, .int a2] dX8_unlikeValues_21 ok_mX8_at rfl ml_RX8_152 in_mX8_at se_mX8_at (hS.n 51 rfl) (hS.k 51 8 rfl) (by decide) rfl (Nat.le_of_ble_eq_true rfl) (by decide) (by decide) (by decide) (s_mX8_at hS h) (fun r1 I9 J9 h => ?_)
      obtain ⟨rfl, rfl, h⟩ := h
      refine V_sipush (v := (-1000)) dX8_unlikeValues_24 (by decide) ?_
      refine V_icmp_eq 34 dX8_unlikeValues_27 rfl (fun hc => ?_) (fun hc => ?_)
      · replace h := h.1 hc
        refine V_iconst (v := 0) dX8_unlikeValues_34 (by decide) ?_
        refine V_istore (lo2 := [(5, .int 0), (0, .ref 51), (1, .int a1), (2, .int a2), (3, .int x3), (4, .int x4)]) dX8_unlikeValues_35 (by decide) rfl ?_
        refine V_iconst (v := 0) dX8_unlikeValues_37 (by decide) ?_
        refine V_istore (lo2 := [(6, .int 0), (5, .int 0), (0, .ref 51), (1, .int a1), (2, .int a2), (3, .int x3), (4, .int x4)]) dX8_unlikeValues_38 (by decide) rfl ?_
        refine V_sub (lo2 := [(0, .ref 51), (1, .int a1), (2, .int a2), (3, .int x3), (4, .int x4), (5, .int 0), (6, .int 0)]) [2, 3, 4, 5, 6, 1, 0] rfl ?_
        obtain ⟨f9, h⟩ := h
        refine swX8_unlikeValues_40 hS ?_ f9 _ _ _ _ h
        · intro u7 u8 u9 h
          refine V_iload_n dX8_unlikeValues_84 rfl rfl ?_
          refine V_iload dX8_unlikeValues_85 rfl ?_
          refine V_if_eq 94 dX8_unlikeValues_87 rfl (fun hc => ?_) (fun hc => ?_)
          · replace h := h.1 hc
            refine V_iconst (v := 0) dX8_unlikeValues_94 (by decide) ?_
            refine V_iadd dX8_unlikeValues_95 ?_
            refine V_topi (fun v10 e_v10 => ?_)
            replace h := h v10 e_v10
            refine V_istore_n (lo2 := [(3, .int v10), (0, .ref 51), (1, .int a1), (2, .int a2), (4, .int u8), (5, .int u9)]) dX8_unlikeValues_96 rfl (by decide) rfl ?_
            obtain ⟨v11, e_v11⟩ : ∃ z : Int32, z = (u8 + 1) := ⟨_, rfl⟩
            replace h := h v11 e_v11
            refine V_iinc (lo2 := [(4, .int v11), (3, .int v10), (0, .ref 51), (1, .int a1), (2, .int a2), (5, .int u9)]) 4 dX8_unlikeValues_97 rfl (v := v11) (by rw [e_v11]; first | done | rfl) (by decide) rfl ?_
            refine V_goto 5 dX8_unlikeValues_100 rfl ?_
            refine V_sub (lo2 := [(0, .ref 51), (1, .int a1), (2, .int a2), (3, .int v10), (4, .int v11)]) [2, 3, 4, 1, 0] rfl ?_
            exact ih _ _ h
          · replace h := h.2 hc
            refine V_iconst (v := 1) dX8_unlikeValues_90 (by decide) ?_
            refine V_goto 95 dX8_unlikeValues_91 rfl ?_
            refine V_iadd dX8_unlikeValues_95 ?_
            refine V_topi (fun v12 e_v12 => ?_)
            replace h := h v12 e_v12
            refine V_istore_n (lo2 := [(3, .int v12), (0, .ref 51), (1, .int a1), (2, .int a2), (4, .int u8), (5, .int u9)]) dX8_unlikeValues_96 rfl (by decide) rfl ?_
            obtain ⟨v13, e_v13⟩ : ∃ z : Int32, z = (u8 + 1) := ⟨_, rfl⟩
            replace h := h v13 e_v13
            refine V_iinc (lo2 := [(4, .int v13), (3, .int v12), (0, .ref 51), (1, .int a1), (2, .int a2), (5, .int u9)]) 4 dX8_unlikeValues_97 rfl (v := v13) (by rw [e_v13]; first | done | rfl) (by decide) rfl ?_
            refine V_goto 5 dX8_unlikeValues_100 rfl ?_
            refine V_sub (lo2 := [(0, .ref 51), (1, .int a1), (2, .int a2), (3, .int v12), (4, .int v13)]) [2, 3, 4, 1, 0] rfl ?_
            exact ih _ _ h
      · replace h := h.2 hc
        refine V_iconst (v := 1) dX8_unlikeValues_30 (by decide) ?_
        refine V_goto 35 dX8_unlikeValues_31 rfl ?_
        refine V_istore (lo2 := [(5, .int 1), (0, .ref 51), (1, .int a1), (2, .int a2), (3, .int x3), (4, .int x4)]) dX8_unlikeValues_35 (by decide) rfl ?_
        refine V_iconst (v := 0) dX8_unlikeValues_37 (by decide) ?_
        refine V_istore (lo2 := [(6, .int 0), (5, .int 1), (0, .ref 51), (1, .int a1), (2, .int a2), (3, .int x3), (4, .int x4)]) dX8_unlikeValues_38 (by decide) rfl ?_
        refine V_sub (lo2 := [(0, .ref 51), (1, .int a1), (2, .int a2), (3, .int x3), (4, .int x4), (5, .int 1), (6, .int 0)]) [2, 3, 4, 5, 6, 1, 0] rfl ?_
        obtain ⟨f9, h⟩ := h
        refine swX8_unlikeValues_40 hS ?_ f9 _ _ _ _ h
        · intro u14 u15 u16 h
          refine V_iload_n dX8_unlikeValues_84 rfl rfl ?_
          refine V_iload dX8_unlikeValues_85 rfl ?_
          refine V_if_eq 94 dX8_unlikeValues_87 rfl (fun hc => ?_) (fun hc => ?_)
          · replace h := h.1 hc
            refine V_iconst (v := 0) dX8_unlikeValues_94 (by decide) ?_
            refine V_iadd dX8_unlikeValues_95 ?_
            refine V_topi (fun v17 e_v17 => ?_)
            replace h := h v17 e_v17
            refine V_istore_n (lo2 := [(3, .int v17), (0, .ref 51), (1, .int a1), (2, .int a2), (4, .int u15), (5, .int u16)]) dX8_unlikeValues_96 rfl (by decide) rfl ?_
            obtain ⟨v18, e_v18⟩ : ∃ z : Int32, z = (u15 + 1) := ⟨_, rfl⟩
            replace h := h v18 e_v18
            refine V_iinc (lo2 := [(4, .int v18), (3, .int v17), (0, .ref 51), (1, .int a1), (2, .int a2), (5, .int u16)]) 4 dX8_unlikeValues_97 rfl (v := v18) (by rw [e_v18]; first | done | rfl) (by decide) rfl ?_
            refine V_goto 5 dX8_unlikeValues_100 rfl ?_
            refine V_sub (lo2 := [(0, .ref 51), (1, .int a1), (2, .int a2), (3, .int v17), (4, .int v18)]) [2, 3, 4, 1, 0] rfl ?_
            exact ih _ _ h
          · replace h := h.2 hc
            refine V_iconst (v := 1) dX8_unlikeValues_90 (by decide) ?_
            refine V_goto 95 dX8_unlikeValues_91 rfl ?_
            refine V_iadd dX8_unlikeValues_95 ?_
            refine V_topi (fun v19 e_v19 => ?_)
            replace h := h v19 e_v19
            refine V_istore_n (lo2 := [(3, .int v19), (0, .ref 51), (1, .int a1), (2, .int a2), (4, .int u15), (5, .int u16)]) dX8_unlikeValues_96 rfl (by decide) rfl ?_
            obtain ⟨v20, e_v20⟩ : ∃ z : Int32, z = (u15 + 1) := ⟨_, rfl⟩
            replace h := h v20 e_v20
            refine V_iinc (lo2 := [(4, .int v20), (3, .int v19), (0, .ref 51), (1, .int a1), (2, .int a2), (5, .int u16)]) 4 dX8_unlikeValues_97 rfl (v := v20) (by rw [e_v20]; first | done | rfl) (by decide) rfl ?_
            refine V_goto 5 dX8_unlikeValues_100 rfl ?_
            refine V_sub (lo2 := [(0, .ref 51), (1, .int a1), (2, .int a2), (3, .int v19), (4, .int v20)]) [2, 3, 4, 1, 0] rfl ?_
            exact ih _ _ h
def wX8_unlikeValues (a1 : Int32) (a2 : Int32) (I : QI) (post : Int32 → Prop) : Prop := (∃ f : Nat, wX8_unlikeValues_5 a1 a2 I (fun u21 => ((u21 ≤ 0 → post 1) ∧ (¬ u21 ≤ 0 → post u21))) post f 0 0)
set_option maxRecDepth 100000 in
set_option maxHeartbeats 4000000 in
theorem s_mX8_unlikeValues {X : QX} {S : QS} {a1 : Int32} {a2 : Int32} {I : QI} {J : QJ} {post : Int32 → Prop} (hS : Sh S) (h : wX8_unlikeValues a1 a2 I post) : CX X mX8_unlikeValues 1 0 0 [.ref 51, .int a1, .int a2] S I J (q_Pi S (fun r I2 J2 => I = I2 ∧ J = J2 ∧ post r)) := by
  refine CX.of (lo := [(0, .ref 51), (1, .int a1), (2, .int a2)]) ok_mX8_unlikeValues rfl (Nat.le_of_ble_eq_true rfl) rfl ?_
  replace h : (∃ f : Nat, wX8_unlikeValues_5 a1 a2 I (fun u21 => ((u21 ≤ 0 → post 1) ∧ (¬ u21 ≤ 0 → post u21))) post f 0 0) := h
  refine V_iconst (v := 0) dX8_unlikeValues_0 (by decide) ?_
  refine V_istore_n (lo2 := [(3, .int 0), (0, .ref 51), (1, .int a1), (2, .int a2)]) dX8_unlikeValues_1 rfl (by decide) rfl ?_
  refine V_iconst (v := 0) dX8_unlikeValues_2 (by decide) ?_
  refine V_istore (lo2 := [(4, .int 0), (3, .int 0), (0, .ref 51), (1, .int a1), (2, .int a2)]) dX8_unlikeValues_3 (by decide) rfl ?_
  refine V_sub (lo2 := [(0, .ref 51), (1, .int a1), (2, .int a2), (3, .int 0), (4, .int 0)]) [2, 3, 4, 1, 0] rfl ?_
  obtain ⟨f9, h⟩ := h
  refine swX8_unlikeValues_5 hS ?_ f9 _ _ h
  · intro u21 h
    refine V_iload_n dX8_unlikeValues_103 rfl rfl ?_
    refine V_if_le 111 dX8_unlikeValues_104 rfl (fun hc => ?_) (fun hc => ?_)
    · replace h := h.1 hc
      refine V_iconst (v := 1) dX8_unlikeValues_111 (by decide) ?_
      exact V_iret dX8_unlikeValues_112 rfl (by decide) (by decide) ⟨_, rfl, rfl, rfl, rfl, h⟩
    · replace h := h.2 hc
      refine V_iload_n dX8_unlikeValues_107 rfl rfl ?_
      refine V_goto 112 dX8_unlikeValues_108 rfl ?_
      exact V_iret dX8_unlikeValues_112 rfl (by decide) (by decide) ⟨_, rfl, rfl, rfl, rfl, h⟩
def wX8_estimateOf_4 (a1 : Int32) (I : QI) (K50 : Int32 → Prop) (post : Int32 → Prop) : Nat → Int32 → Int32 → Prop
  | 0, _, _ => False
  | n + 1, x2, x3 => (((I 51 1) ≤ x3 → (K50 x2)) ∧ (¬ (I 51 1) ≤ x3 → ((¬ ((a1 >>> (x3 &&& 31)) &&& 1) = 1 → (∀ v1 : Int32, v1 = (x2 * 1) → (∀ v2 : Int32, v2 = (x3 + 1) → (wX8_estimateOf_4 a1 I K50 post n v1 v2)))) ∧ (((a1 >>> (x3 &&& 31)) &&& 1) = 1 → (vp_in x3 4 ∧ (((I 53 (x3).toNatClampNeg) ≤ 1 → (∀ v3 : Int32, v3 = (x2 * 1) → (∀ v4 : Int32, v4 = (x3 + 1) → (wX8_estimateOf_4 a1 I K50 post n v3 v4)))) ∧ (¬ (I 53 (x3).toNatClampNeg) ≤ 1 → (vp_in x3 4 ∧ (∀ v5 : Int32, v5 = (x2 * (I 53 (x3).toNatClampNeg)) → (∀ v6 : Int32, v6 = (x3 + 1) → (wX8_estimateOf_4 a1 I K50 post n v5 v6)))))))))))
set_option maxRecDepth 100000 in
set_option maxHeartbeats 4000000 in
theorem swX8_estimateOf_4 {X : QX} {S : QS} {a1 : Int32} {I : QI} {J : QJ} {K50 : Int32 → Prop} {post : Int32 → Prop} (hS : Sh S) (hK50 : ∀ (z2 : Int32), K50 z2 → V X mX8_estimateOf 2 0 0 (q_Pi S (fun r I2 J2 => I = I2 ∧ J = J2 ∧ post r)) 50 [(0, .ref 51), (1, .int a1), (2, .int z2)] [] S I J 0 0) : ∀ (f : Nat) (x2 : Int32) (x3 : Int32), wX8_estimateOf_4 a1 I K50 post f x2 x3 → V X mX8_estimateOf 2 0 0 (q_Pi S (fun r I2 J2 => I = I2 ∧ J = J2 ∧ post r)) 4 [(0, .ref 51), (1, .int a1), (2, .int x2), (3, .int x3)] [] S I J 0 0 := by
  intro f
  induction f with
  | zero => intro x2 x3 h; exact h.elim
  | succ n ih =>
    intro x2 x3 h
    replace h : (((I 51 1) ≤ x3 → (K50 x2)) ∧ (¬ (I 51 1) ≤ x3 → ((¬ ((a1 >>> (x3 &&& 31)) &&& 1) = 1 → (∀ v1 : Int32, v1 = (x2 * 1) → (∀ v2 : Int32, v2 = (x3 + 1) → (wX8_estimateOf_4 a1 I K50 post n v1 v2)))) ∧ (((a1 >>> (x3 &&& 31)) &&& 1) = 1 → (vp_in x3 4 ∧ (((I 53 (x3).toNatClampNeg) ≤ 1 → (∀ v3 : Int32, v3 = (x2 * 1) → (∀ v4 : Int32, v4 = (x3 + 1) → (wX8_estimateOf_4 a1 I K50 post n v3 v4)))) ∧ (¬ (I 53 (x3).toNatClampNeg) ≤ 1 → (vp_in x3 4 ∧ (∀ v5 : Int32, v5 = (x2 * (I 53 (x3).toNatClampNeg)) → (∀ v6 : Int32, v6 = (x3 + 1) → (wX8_estimateOf_4 a1 I K50 post n v5 v6))))))))))) := h
    refine V_iload_n dX8_estimateOf_4 rfl rfl ?_
    refine V_aload_n dX8_estimateOf_5 rfl rfl ?_
    refine V_geti dX8_estimateOf_6 fl_RX8_101 (hS.n 51 rfl) (hS.k 51 8 rfl) rfl ?_
    refine V_icmp_ge 50 dX8_estimateOf_9 rfl (fun hc => ?_) (fun hc => ?_)
    · replace h := h.1 hc
      refine V_sub (lo2 := [(0, .ref 51), (1, .int a1), (2, .int x2)]) [0, 1, 2] rfl ?_
      exact hK50 _ h
    · replace h := h.2 hc
      refine V_iload_n dX8_estimateOf_12 rfl rfl ?_
      refine V_iload_n dX8_estimateOf_13 rfl rfl ?_
      refine V_iload_n dX8_estimateOf_14 rfl rfl ?_
      refine V_ishr dX8_estimateOf_15 ?_
      refine V_iconst (v := 1) dX8_estimateOf_16 (by decide) ?_
      refine V_iand dX8_estimateOf_17 ?_
      refine V_iconst (v := 1) dX8_estimateOf_18 (by decide) ?_
      refine V_icmp_ne 41 dX8_estimateOf_19 rfl (fun hc => ?_) (fun hc => ?_)
      · replace h := h.1 hc
        refine V_iconst (v := 1) dX8_estimateOf_41 (by decide) ?_
        refine V_imul dX8_estimateOf_42 ?_
        refine V_topi (fun v1 e_v1 => ?_)
        replace h := h v1 e_v1
        refine V_istore_n (lo2 := [(2, .int v1), (0, .ref 51), (1, .int a1), (3, .int x3)]) dX8_estimateOf_43 rfl (by decide) rfl ?_
        obtain ⟨v2, e_v2⟩ : ∃ z : Int32, z = (x3 + 1) := ⟨_, rfl⟩
        replace h := h v2 e_v2
        refine V_iinc (lo2 := [(3, .int v2), (2, .int v1), (0, .ref 51), (1, .int a1)]) 3 dX8_estimateOf_44 rfl (v := v2) (by rw [e_v2]; first | done | rfl) (by decide) rfl ?_
        refine V_goto 4 dX8_estimateOf_47 rfl ?_
        refine V_sub (lo2 := [(0, .ref 51), (1, .int a1), (2, .int v1), (3, .int v2)]) [2, 3, 1, 0] rfl ?_
        exact ih _ _ h
      · replace h := h.2 hc
        refine V_aload_n dX8_estimateOf_22 rfl rfl ?_
        refine V_getr dX8_estimateOf_23 fl_RX8_13 (hS.n 51 rfl) (hS.k 51 8 rfl) rfl (hS.r 51 3 53 rfl) ?_
        refine V_iload_n dX8_estimateOf_26 rfl rfl ?_
        obtain ⟨hb, h⟩ := h
        refine V_iald dX8_estimateOf_27 (hS.n 53 rfl) (hS.k 53 9 rfl) (by rw [(hS.z 53 4 rfl)]; exact hb) ?_
        refine V_iconst (v := 1) dX8_estimateOf_28 (by decide) ?_
        refine V_icmp_le 41 dX8_estimateOf_29 rfl (fun hc => ?_) (fun hc => ?_)
        · replace h := h.1 hc
          refine V_iconst (v := 1) dX8_estimateOf_41 (by decide) ?_
          refine V_imul dX8_estimateOf_42 ?_
          refine V_topi (fun v3 e_v3 => ?_)
          replace h := h v3 e_v3
          refine V_istore_n (lo2 := [(2, .int v3), (0, .ref 51), (1, .int a1), (3, .int x3)]) dX8_estimateOf_43 rfl (by decide) rfl ?_
          obtain ⟨v4, e_v4⟩ : ∃ z : Int32, z = (x3 + 1) := ⟨_, rfl⟩
          replace h := h v4 e_v4
          refine V_iinc (lo2 := [(3, .int v4), (2, .int v3), (0, .ref 51), (1, .int a1)]) 3 dX8_estimateOf_44 rfl (v := v4) (by rw [e_v4]; first | done | rfl) (by decide) rfl ?_
          refine V_goto 4 dX8_estimateOf_47 rfl ?_
          refine V_sub (lo2 := [(0, .ref 51), (1, .int a1), (2, .int v3), (3, .int v4)]) [2, 3, 1, 0] rfl ?_
          exact ih _ _ h
        · replace h := h.2 hc
          refine V_aload_n dX8_estimateOf_32 rfl rfl ?_
          refine V_getr dX8_estimateOf_33 fl_RX8_13 (hS.n 51 rfl) (hS.k 51 8 rfl) rfl (hS.r 51 3 53 rfl) ?_
          refine V_iload_n dX8_estimateOf_36 rfl rfl ?_
          obtain ⟨hb, h⟩ := h
          refine V_iald dX8_estimateOf_37 (hS.n 53 rfl) (hS.k 53 9 rfl) (by rw [(hS.z 53 4 rfl)]; exact hb) ?_
          refine V_goto 42 dX8_estimateOf_38 rfl ?_
          refine V_imul dX8_estimateOf_42 ?_
          refine V_topi (fun v5 e_v5 => ?_)
          replace h := h v5 e_v5
          refine V_istore_n (lo2 := [(2, .int v5), (0, .ref 51), (1, .int a1), (3, .int x3)]) dX8_estimateOf_43 rfl (by decide) rfl ?_
          obtain ⟨v6, e_v6⟩ : ∃ z : Int32, z = (x3 + 1) := ⟨_, rfl⟩
          replace h := h v6 e_v6
          refine V_iinc (lo2 := [(3, .int v6), (2, .int v5), (0, .ref 51), (1, .int a1)]) 3 dX8_estimateOf_44 rfl (v := v6) (by rw [e_v6]; first | done | rfl) (by decide) rfl ?_
          refine V_goto 4 dX8_estimateOf_47 rfl ?_
          refine V_sub (lo2 := [(0, .ref 51), (1, .int a1), (2, .int v5), (3, .int v6)]) [2, 3, 1, 0] rfl ?_
          exact ih _ _ h
def wX8_estimateOf_52 (a1 : Int32) (I : QI) (K161 : Int32 → Prop) (post : Int32 → Prop) : Nat → Int32 → Int32 → Prop
  | 0, _, _ => False
  | n + 1, x2, x3 => (((I 51 14) ≤ x3 → (K161 x2)) ∧ (¬ (I 51 14) ≤ x3 → (vp_in (4 * x3) 24 ∧ (∀ v8 : Int32, v8 = (I 62 ((4 * x3)).toNatClampNeg) → (vp_in ((4 * x3) + 2) 24 ∧ (∀ v9 : Int32, v9 = (I 62 (((4 * x3) + 2)).toNatClampNeg) → ((¬ ((a1 >>> (v8 &&& 31)) &&& 1) = 1 → (∀ v10 : Int32, v10 = (x3 + 1) → (wX8_estimateOf_52 a1 I K161 post n x2 v10))) ∧ (((a1 >>> (v8 &&& 31)) &&& 1) = 1 → ((¬ ((a1 >>> (v9 &&& 31)) &&& 1) = 1 → (∀ v11 : Int32, v11 = (x3 + 1) → (wX8_estimateOf_52 a1 I K161 post n x2 v11))) ∧ (((a1 >>> (v9 &&& 31)) &&& 1) = 1 → (vp_in ((4 * x3) + 1) 24 ∧ (wX8_unlikeValues v8 (I 62 (((4 * x3) + 1)).toNatClampNeg) I (fun r12 => (vp_in ((4 * x3) + 3) 24 ∧ (wX8_unlikeValues v9 (I 62 (((4 * x3) + 3)).toNatClampNeg) I (fun r13 => ((r12 ≤ r13 → (¬ r13 = 0 ∧ (∀ v14 : Int32, v14 = (x2 / r13) → (∀ v15 : Int32, v15 = (x3 + 1) → (wX8_estimateOf_52 a1 I K161 post n v14 v15))))) ∧ (¬ r12 ≤ r13 → (¬ r12 = 0 ∧ (∀ v16 : Int32, v16 = (x2 / r12) → (∀ v17 : Int32, v17 = (x3 + 1) → (wX8_estimateOf_52 a1 I K161 post n v16 v17))))))))))))))))))))))
set_option maxRecDepth 100000 in
set_option maxHeartbeats 4000000 in
theorem swX8_estimateOf_52 {X : QX} {S : QS} {a1 : Int32} {I : QI} {J : QJ} {K161 : Int32 → Prop} {post : Int32 → Prop} (hS : Sh S) (hK161 : ∀ (z2 : Int32), K161 z2 → V X mX8_estimateOf 2 0 0 (q_Pi S (fun r I2 J2 => I = I2 ∧ J = J2 ∧ post r)) 161 [(2, .int z2)] [] S I J 0 0) : ∀ (f : Nat) (x2 : Int32) (x3 : Int32), wX8_estimateOf_52 a1 I K161 post f x2 x3 → V X mX8_estimateOf 2 0 0 (q_Pi S (fun r I2 J2 => I = I2 ∧ J = J2 ∧ post r)) 52 [(0, .ref 51), (1, .int a1), (2, .int x2), (3, .int x3)] [] S I J 0 0 := by
  intro f
  induction f with
  | zero => intro x2 x3 h; exact h.elim
  | succ n ih =>
    intro x2 x3 h
    replace h : (((I 51 14) ≤ x3 → (K161 x2)) ∧ (¬ (I 51 14) ≤ x3 → (vp_in (4 * x3) 24 ∧ (∀ v8 : Int32, v8 = (I 62 ((4 * x3)).toNatClampNeg) → (vp_in ((4 * x3) + 2) 24 ∧ (∀ v9 : Int32, v9 = (I 62 (((4 * x3) + 2)).toNatClampNeg) → ((¬ ((a1 >>> (v8 &&& 31)) &&& 1) = 1 → (∀ v10 : Int32, v10 = (x3 + 1) → (wX8_estimateOf_52 a1 I K161 post n x2 v10))) ∧ (((a1 >>> (v8 &&& 31)) &&& 1) = 1 → ((¬ ((a1 >>> (v9 &&& 31)) &&& 1) = 1 → (∀ v11 : Int32, v11 = (x3 + 1) → (wX8_estimateOf_52 a1 I K161 post n x2 v11))) ∧ (((a1 >>> (v9 &&& 31)) &&& 1) = 1 → (vp_in ((4 * x3) + 1) 24 ∧ (wX8_unlikeValues v8 (I 62 (((4 * x3) + 1)).toNatClampNeg) I (fun r12 => (vp_in ((4 * x3) + 3) 24 ∧ (wX8_unlikeValues v9 (I 62 (((4 * x3) + 3)).toNatClampNeg) I (fun r13 => ((r12 ≤ r13 → (¬ r13 = 0 ∧ (∀ v14 : Int32, v14 = (x2 / r13) → (∀ v15 : Int32, v15 = (x3 + 1) → (wX8_estimateOf_52 a1 I K161 post n v14 v15))))) ∧ (¬ r12 ≤ r13 → (¬ r12 = 0 ∧ (∀ v16 : Int32, v16 = (x2 / r12) → (∀ v17 : Int32, v17 = (x3 + 1) → (wX8_estimateOf_52 a1 I K161 post n v16 v17)))))))))))))))))))))) := h
    refine V_iload_n dX8_estimateOf_52 rfl rfl ?_
    refine V_aload_n dX8_estimateOf_53 rfl rfl ?_
    refine V_geti dX8_estimateOf_54 fl_RX8_250 (hS.n 51 rfl) (hS.k 51 8 rfl) rfl ?_
    refine V_icmp_ge 161 dX8_estimateOf_57 rfl (fun hc => ?_) (fun hc => ?_)
    · replace h := h.1 hc
      refine V_sub (lo2 := [(2, .int x2)]) [2] rfl ?_
      exact hK161 _ h
    · replace h := h.2 hc
      refine V_aload_n dX8_estimateOf_60 rfl rfl ?_
      refine V_getr dX8_estimateOf_61 fl_RX8_45 (hS.n 51 rfl) (hS.k 51 8 rfl) rfl (hS.r 51 15 62 rfl) ?_
      refine V_iconst (v := 4) dX8_estimateOf_64 (by decide) ?_
      refine V_iload_n dX8_estimateOf_65 rfl rfl ?_
      refine V_imul dX8_estimateOf_66 ?_
      obtain ⟨hb, h⟩ := h
      refine V_iald dX8_estimateOf_67 (hS.n 62 rfl) (hS.k 62 9 rfl) (by rw [(hS.z 62 24 rfl)]; exact hb) ?_
      refine V_topi (fun v8 e_v8 => ?_)
      replace h := h v8 e_v8
      refine V_istore (lo2 := [(4, .int v8), (0, .ref 51), (1, .int a1), (2, .int x2), (3, .int x3)]) dX8_estimateOf_68 (by decide) rfl ?_
      refine V_aload_n dX8_estimateOf_70 rfl rfl ?_
      refine V_getr dX8_estimateOf_71 fl_RX8_45 (hS.n 51 rfl) (hS.k 51 8 rfl) rfl (hS.r 51 15 62 rfl) ?_
      refine V_iconst (v := 4) dX8_estimateOf_74 (by decide) ?_
      refine V_iload_n dX8_estimateOf_75 rfl rfl ?_
      refine V_imul dX8_estimateOf_76 ?_
      refine V_iconst (v := 2) dX8_estimateOf_77 (by decide) ?_
      refine V_iadd dX8_estimateOf_78 ?_
      obtain ⟨hb, h⟩ := h
      refine V_iald dX8_estimateOf_79 (hS.n 62 rfl) (hS.k 62 9 rfl) (by rw [(hS.z 62 24 rfl)]; exact hb) ?_
      refine V_topi (fun v9 e_v9 => ?_)
      replace h := h v9 e_v9
      refine V_istore (lo2 := [(5, .int v9), (4, .int v8), (0, .ref 51), (1, .int a1), (2, .int x2), (3, .int x3)]) dX8_estimateOf_80 (by decide) rfl ?_
      refine V_iload_n dX8_estimateOf_82 rfl rfl ?_
      refine V_iload dX8_estimateOf_83 rfl ?_
      refine V_ishr dX8_estimateOf_85 ?_
      refine V_iconst (v := 1) dX8_estimateOf_86 (by decide) ?_
      refine V_iand dX8_estimateOf_87 ?_
      refine V_iconst (v := 1) dX8_estimateOf_88 (by decide) ?_
      refine V_icmp_ne 155 dX8_estimateOf_89 rfl (fun hc => ?_) (fun hc => ?_)
      · replace h := h.1 hc
        obtain ⟨v10, e_v10⟩ : ∃ z : Int32, z = (x3 + 1) := ⟨_, rfl⟩
        replace h := h v10 e_v10
        refine V_iinc (lo2 := [(3, .int v10), (5, .int v9), (4, .int v8), (0, .ref 51), (1, .int a1), (2, .int x2)]) 5 dX8_estimateOf_155 rfl (v := v10) (by rw [e_v10]; first | done | rfl) (by decide) rfl ?_
        refine V_goto 52 dX8_estimateOf_158 rfl ?_
        refine V_sub (lo2 := [(0, .ref 51), (1, .int a1), (2, .int x2), (3, .int v10)]) [3, 4, 5, 0] rfl ?_
        exact ih _ _ h
      · replace h := h.2 hc
        refine V_iload_n dX8_estimateOf_92 rfl rfl ?_
        refine V_iload dX8_estimateOf_93 rfl ?_
        refine V_ishr dX8_estimateOf_95 ?_
        refine V_iconst (v := 1) dX8_estimateOf_96 (by decide) ?_
        refine V_iand dX8_estimateOf_97 ?_
        refine V_iconst (v := 1) dX8_estimateOf_98 (by decide) ?_
        refine V_icmp_ne 155 dX8_estimateOf_99 rfl (fun hc => ?_) (fun hc => ?_)
        · replace h := h.1 hc
          obtain ⟨v11, e_v11⟩ : ∃ z : Int32, z = (x3 + 1) := ⟨_, rfl⟩
          replace h := h v11 e_v11
          refine V_iinc (lo2 := [(3, .int v11), (5, .int v9), (4, .int v8), (0, .ref 51), (1, .int a1), (2, .int x2)]) 5 dX8_estimateOf_155 rfl (v := v11) (by rw [e_v11]; first | done | rfl) (by decide) rfl ?_
          refine V_goto 52 dX8_estimateOf_158 rfl ?_
          refine V_sub (lo2 := [(0, .ref 51), (1, .int a1), (2, .int x2), (3, .int v11)]) [3, 4, 5, 0] rfl ?_
          exact ih _ _ h
        · replace h := h.2 hc
          refine V_aload_n dX8_estimateOf_102 rfl rfl ?_
          refine V_iload dX8_estimateOf_103 rfl ?_
          refine V_aload_n dX8_estimateOf_105 rfl rfl ?_
          refine V_getr dX8_estimateOf_106 fl_RX8_45 (hS.n 51 rfl) (hS.k 51 8 rfl) rfl (hS.r 51 15 62 rfl) ?_
          refine V_iconst (v := 4) dX8_estimateOf_109 (by decide) ?_
          refine V_iload_n dX8_estimateOf_110 rfl rfl ?_
          refine V_imul dX8_estimateOf_111 ?_
          refine V_iconst (v := 1) dX8_estimateOf_112 (by decide) ?_
          refine V_iadd dX8_estimateOf_113 ?_
          obtain ⟨hb, h⟩ := h
          refine V_iald dX8_estimateOf_114 (hS.n 62 rfl) (hS.k 62 9 rfl) (by rw [(hS.z 62 24 rfl)]; exact hb) ?_
          refine V_callVi (st := []) [.int v8, .int (I 62 (((4 * x3) + 1)).toNatClampNeg)] dX8_estimateOf_115 ok_mX8_unlikeValues rfl ml_RX8_253 in_mX8_unlikeValues se_mX8_unlikeValues (hS.n 51 rfl) (hS.k 51 8 rfl) (by decide) rfl (Nat.le_of_ble_eq_true rfl) (by decide) (by decide) (by decide) (s_mX8_unlikeValues hS h) (fun r12 I9 J9 h => ?_)
          obtain ⟨rfl, rfl, h⟩ := h
          refine V_istore (lo2 := [(6, .int r12), (5, .int v9), (4, .int v8), (0, .ref 51), (1, .int a1), (2, .int x2), (3, .int x3)]) dX8_estimateOf_118 (by decide) rfl ?_
          refine V_aload_n dX8_estimateOf_120 rfl rfl ?_
          refine V_iload dX8_estimateOf_121 rfl ?_
          refine V_aload_n dX8_estimateOf_123 rfl rfl ?_
          refine V_getr dX8_estimateOf_124 fl_RX8_45 (hS.n 51 rfl) (hS.k 51 8 rfl) rfl (hS.r 51 15 62 rfl) ?_
          refine V_iconst (v := 4) dX8_estimateOf_127 (by decide) ?_
          refine V_iload_n dX8_estimateOf_128 rfl rfl ?_
          refine V_imul dX8_estimateOf_129 ?_
          refine V_iconst (v := 3) dX8_estimateOf_130 (by decide) ?_
          refine V_iadd dX8_estimateOf_131 ?_
          obtain ⟨hb, h⟩ := h
          refine V_iald dX8_estimateOf_132 (hS.n 62 rfl) (hS.k 62 9 rfl) (by rw [(hS.z 62 24 rfl)]; exact hb) ?_
          refine V_callVi (st := []) [.int v9, .int (I 62 (((4 * x3) + 3)).toNatClampNeg)] dX8_estimateOf_133 ok_mX8_unlikeValues rfl ml_RX8_253 in_mX8_unlikeValues se_mX8_unlikeValues (hS.n 51 rfl) (hS.k 51 8 rfl) (by decide) rfl (Nat.le_of_ble_eq_true rfl) (by decide) (by decide) (by decide) (s_mX8_unlikeValues hS h) (fun r13 I9 J9 h => ?_)
          obtain ⟨rfl, rfl, h⟩ := h
          refine V_istore (lo2 := [(7, .int r13), (6, .int r12), (5, .int v9), (4, .int v8), (0, .ref 51), (1, .int a1), (2, .int x2), (3, .int x3)]) dX8_estimateOf_136 (by decide) rfl ?_
          refine V_iload_n dX8_estimateOf_138 rfl rfl ?_
          refine V_iload dX8_estimateOf_139 rfl ?_
          refine V_iload dX8_estimateOf_141 rfl ?_
          refine V_icmp_le 151 dX8_estimateOf_143 rfl (fun hc => ?_) (fun hc => ?_)
          · replace h := h.1 hc
            refine V_iload dX8_estimateOf_151 rfl ?_
            obtain ⟨hb, h⟩ := h
            refine V_idiv dX8_estimateOf_153 hb ?_
            refine V_topi (fun v14 e_v14 => ?_)
            replace h := h v14 e_v14
            refine V_istore_n (lo2 := [(2, .int v14), (7, .int r13), (6, .int r12), (5, .int v9), (4, .int v8), (0, .ref 51), (1, .int a1), (3, .int x3)]) dX8_estimateOf_154 rfl (by decide) rfl ?_
            obtain ⟨v15, e_v15⟩ : ∃ z : Int32, z = (x3 + 1) := ⟨_, rfl⟩
            replace h := h v15 e_v15
            refine V_iinc (lo2 := [(3, .int v15), (2, .int v14), (7, .int r13), (6, .int r12), (5, .int v9), (4, .int v8), (0, .ref 51), (1, .int a1)]) 7 dX8_estimateOf_155 rfl (v := v15) (by rw [e_v15]; first | done | rfl) (by decide) rfl ?_
            refine V_goto 52 dX8_estimateOf_158 rfl ?_
            refine V_sub (lo2 := [(0, .ref 51), (1, .int a1), (2, .int v14), (3, .int v15)]) [6, 7, 1, 0] rfl ?_
            exact ih _ _ h
          · replace h := h.2 hc
            refine V_iload dX8_estimateOf_146 rfl ?_
            refine V_goto 153 dX8_estimateOf_148 rfl ?_
            obtain ⟨hb, h⟩ := h
            refine V_idiv dX8_estimateOf_153 hb ?_
            refine V_topi (fun v16 e_v16 => ?_)
            replace h := h v16 e_v16
            refine V_istore_n (lo2 := [(2, .int v16), (7, .int r13), (6, .int r12), (5, .int v9), (4, .int v8), (0, .ref 51), (1, .int a1), (3, .int x3)]) dX8_estimateOf_154 rfl (by decide) rfl ?_
            obtain ⟨v17, e_v17⟩ : ∃ z : Int32, z = (x3 + 1) := ⟨_, rfl⟩
            replace h := h v17 e_v17
            refine V_iinc (lo2 := [(3, .int v17), (2, .int v16), (7, .int r13), (6, .int r12), (5, .int v9), (4, .int v8), (0, .ref 51), (1, .int a1)]) 7 dX8_estimateOf_155 rfl (v := v17) (by rw [e_v17]; first | done | rfl) (by decide) rfl ?_
            refine V_goto 52 dX8_estimateOf_158 rfl ?_
            refine V_sub (lo2 := [(0, .ref 51), (1, .int a1), (2, .int v16), (3, .int v17)]) [6, 7, 1, 0] rfl ?_
            exact ih _ _ h
def wX8_estimateOf (a1 : Int32) (I : QI) (post : Int32 → Prop) : Prop := (∃ f : Nat, wX8_estimateOf_4 a1 I (fun u7 => (∃ f : Nat, wX8_estimateOf_52 a1 I (fun u18 => ((u18 ≤ 0 → post 1) ∧ (¬ u18 ≤ 0 → post u18))) post f u7 0)) post f 1 0)
set_option maxRecDepth 100000 in
set_option maxHeartbeats 4000000 in
theorem s_mX8_estimateOf {X : QX} {S : QS} {a1 : Int32} {I : QI} {J : QJ} {post : Int32 → Prop} (hS : Sh S) (h : wX8_estimateOf a1 I post) : CX X mX8_estimateOf 2 0 0 [.ref 51, .int a1] S I J (q_Pi S (fun r I2 J2 => I = I2 ∧ J = J2 ∧ post r)) := by
  refine CX.of (lo := [(0, .ref 51), (1, .int a1)]) ok_mX8_estimateOf rfl (Nat.le_of_ble_eq_true rfl) rfl ?_
  replace h : (∃ f : Nat, wX8_estimateOf_4 a1 I (fun u7 => (∃ f : Nat, wX8_estimateOf_52 a1 I (fun u18 => ((u18 ≤ 0 → post 1) ∧ (¬ u18 ≤ 0 → post u18))) post f u7 0)) post f 1 0) := h
  refine V_iconst (v := 1) dX8_estimateOf_0 (by decide) ?_
  refine V_istore_n (lo2 := [(2, .int 1), (0, .ref 51), (1, .int a1)]) dX8_estimateOf_1 rfl (by decide) rfl ?_
  refine V_iconst (v := 0) dX8_estimateOf_2 (by decide) ?_
  refine V_istore_n (lo2 := [(3, .int 0), (2, .int 1), (0, .ref 51), (1, .int a1)]) dX8_estimateOf_3 rfl (by decide) rfl ?_
  refine V_sub (lo2 := [(0, .ref 51), (1, .int a1), (2, .int 1), (3, .int 0)]) [2, 3, 1, 0] rfl ?_
  obtain ⟨f9, h⟩ := h
  refine swX8_estimateOf_4 hS ?_ f9 _ _ h
  · intro u7 h
    refine V_iconst (v := 0) dX8_estimateOf_50 (by decide) ?_
    refine V_istore_n (lo2 := [(3, .int 0), (0, .ref 51), (1, .int a1), (2, .int u7)]) dX8_estimateOf_51 rfl (by decide) rfl ?_
    refine V_sub (lo2 := [(0, .ref 51), (1, .int a1), (2, .int u7), (3, .int 0)]) [1, 2, 3, 0] rfl ?_
    obtain ⟨f9, h⟩ := h
    refine swX8_estimateOf_52 hS ?_ f9 _ _ h
    · intro u18 h
      refine V_iload_n dX8_estimateOf_161 rfl rfl ?_
      refine V_if_le 169 dX8_estimateOf_162 rfl (fun hc => ?_) (fun hc => ?_)
      · replace h := h.1 hc
        refine V_iconst (v := 1) dX8_estimateOf_169 (by decide) ?_
        exact V_iret dX8_estimateOf_170 rfl (by decide) (by decide) ⟨_, rfl, rfl, rfl, rfl, h⟩
      · replace h := h.2 hc
        refine V_iload_n dX8_estimateOf_165 rfl rfl ?_
        refine V_goto 170 dX8_estimateOf_166 rfl ?_
        exact V_iret dX8_estimateOf_170 rfl (by decide) (by decide) ⟨_, rfl, rfl, rfl, rfl, h⟩
def wX8_isSet (a1 : Int32) (I : QI) (post : Int32 → Prop) : Prop := ((a1 ≤ 0 → post 0) ∧ (¬ a1 ≤ 0 → (((1 <<< ((I 51 1) &&& 31)) ≤ a1 → post 0) ∧ (¬ (1 <<< ((I 51 1) &&& 31)) ≤ a1 → post 1))))
set_option maxRecDepth 100000 in
set_option maxHeartbeats 4000000 in
theorem s_mX8_isSet {X : QX} {S : QS} {a1 : Int32} {I : QI} {J : QJ} {post : Int32 → Prop} (hS : Sh S) (h : wX8_isSet a1 I post) : CX X mX8_isSet 0 0 0 [.ref 51, .int a1] S I J (q_Pi S (fun r I2 J2 => I = I2 ∧ J = J2 ∧ post r)) := by
  refine CX.of (lo := [(0, .ref 51), (1, .int a1)]) ok_mX8_isSet rfl (Nat.le_of_ble_eq_true rfl) rfl ?_
  replace h : ((a1 ≤ 0 → post 0) ∧ (¬ a1 ≤ 0 → (((1 <<< ((I 51 1) &&& 31)) ≤ a1 → post 0) ∧ (¬ (1 <<< ((I 51 1) &&& 31)) ≤ a1 → post 1)))) := h
  refine V_iload_n dX8_isSet_0 rfl rfl ?_
  refine V_if_le 18 dX8_isSet_1 rfl (fun hc => ?_) (fun hc => ?_)
  · replace h := h.1 hc
    refine V_iconst (v := 0) dX8_isSet_18 (by decide) ?_
    exact V_zret dX8_isSet_19 rfl (by decide) (by decide) (by decide) ⟨_, rfl, rfl, rfl, rfl, h⟩
  · replace h := h.2 hc
    refine V_iload_n dX8_isSet_4 rfl rfl ?_
    refine V_iconst (v := 1) dX8_isSet_5 (by decide) ?_
    refine V_aload_n dX8_isSet_6 rfl rfl ?_
    refine V_geti dX8_isSet_7 fl_RX8_101 (hS.n 51 rfl) (hS.k 51 8 rfl) rfl ?_
    refine V_ishl dX8_isSet_10 ?_
    refine V_icmp_ge 18 dX8_isSet_11 rfl (fun hc => ?_) (fun hc => ?_)
    · replace h := h.1 hc
      refine V_iconst (v := 0) dX8_isSet_18 (by decide) ?_
      exact V_zret dX8_isSet_19 rfl (by decide) (by decide) (by decide) ⟨_, rfl, rfl, rfl, rfl, h⟩
    · replace h := h.2 hc
      refine V_iconst (v := 1) dX8_isSet_14 (by decide) ?_
      refine V_goto 19 dX8_isSet_15 rfl ?_
      exact V_zret dX8_isSet_19 rfl (by decide) (by decide) (by decide) ⟨_, rfl, rfl, rfl, rfl, h⟩
def wX8_estimate (a1 : Int32) (I : QI) (post : Int32 → QI → Prop) : Prop := (wX8_isSet a1 I (fun r1 => ((r1 = 0 → (wX8_goesWell 1 I (fun r3 I2 => ((r3 = 0 → post 0 I2) ∧ (¬ r3 = 0 → (wX8_estimateOf a1 I2 (fun r4 => post r4 I2))))))) ∧ (¬ r1 = 0 → (wX8_goesWell 0 I (fun r6 I5 => ((r6 = 0 → post 0 I5) ∧ (¬ r6 = 0 → (wX8_estimateOf a1 I5 (fun r7 => post r7 I5))))))))))
set_option maxRecDepth 100000 in
set_option maxHeartbeats 4000000 in
theorem s_mX8_estimate {X : QX} {S : QS} {a1 : Int32} {I : QI} {J : QJ} {post : Int32 → QI → Prop} (hS : Sh S) (h : wX8_estimate a1 I post) : CX X mX8_estimate 3 0 0 [.ref 51, .int a1] S I J (q_Pi S (fun r I2 J2 => J = J2 ∧ post r I2)) := by
  refine CX.of (lo := [(0, .ref 51), (1, .int a1)]) ok_mX8_estimate rfl (Nat.le_of_ble_eq_true rfl) rfl ?_
  replace h : (wX8_isSet a1 I (fun r1 => ((r1 = 0 → (wX8_goesWell 1 I (fun r3 I2 => ((r3 = 0 → post 0 I2) ∧ (¬ r3 = 0 → (wX8_estimateOf a1 I2 (fun r4 => post r4 I2))))))) ∧ (¬ r1 = 0 → (wX8_goesWell 0 I (fun r6 I5 => ((r6 = 0 → post 0 I5) ∧ (¬ r6 = 0 → (wX8_estimateOf a1 I5 (fun r7 => post r7 I5)))))))))) := h
  refine V_aload_n dX8_estimate_0 rfl rfl ?_
  refine V_aload_n dX8_estimate_1 rfl rfl ?_
  refine V_iload_n dX8_estimate_2 rfl rfl ?_
  refine V_callVi (st := [.ref 51]) [.int a1] dX8_estimate_3 ok_mX8_isSet rfl ml_RX8_256 in_mX8_isSet se_mX8_isSet (hS.n 51 rfl) (hS.k 51 8 rfl) (by decide) rfl (Nat.le_of_ble_eq_true rfl) (by decide) (by decide) (by decide) (s_mX8_isSet hS h) (fun r1 I9 J9 h => ?_)
  obtain ⟨rfl, rfl, h⟩ := h
  refine V_if_eq 13 dX8_estimate_6 rfl (fun hc => ?_) (fun hc => ?_)
  · replace h := h.1 hc
    refine V_iconst (v := 1) dX8_estimate_13 (by decide) ?_
    refine V_callVi (st := []) [.int 1] dX8_estimate_14 ok_mX8_goesWell rfl ml_RX8_112 in_mX8_goesWell se_mX8_goesWell (hS.n 51 rfl) (hS.k 51 8 rfl) (by decide) rfl (Nat.le_of_ble_eq_true rfl) (by decide) (by decide) (by decide) (s_mX8_goesWell hS h) (fun r3 I2 J9 h => ?_)
    obtain ⟨rfl, h⟩ := h
    refine V_if_eq 28 dX8_estimate_17 rfl (fun hc => ?_) (fun hc => ?_)
    · replace h := h.1 hc
      refine V_iconst (v := 0) dX8_estimate_28 (by decide) ?_
      exact V_iret dX8_estimate_29 rfl (by decide) (by decide) ⟨_, rfl, rfl, rfl, h⟩
    · replace h := h.2 hc
      refine V_aload_n dX8_estimate_20 rfl rfl ?_
      refine V_iload_n dX8_estimate_21 rfl rfl ?_
      refine V_callVi (st := []) [.int a1] dX8_estimate_22 ok_mX8_estimateOf rfl ml_RX8_259 in_mX8_estimateOf se_mX8_estimateOf (hS.n 51 rfl) (hS.k 51 8 rfl) (by decide) rfl (Nat.le_of_ble_eq_true rfl) (by decide) (by decide) (by decide) (s_mX8_estimateOf hS h) (fun r4 I9 J9 h => ?_)
      obtain ⟨rfl, rfl, h⟩ := h
      refine V_goto 29 dX8_estimate_25 rfl ?_
      exact V_iret dX8_estimate_29 rfl (by decide) (by decide) ⟨_, rfl, rfl, rfl, h⟩
  · replace h := h.2 hc
    refine V_iconst (v := 0) dX8_estimate_9 (by decide) ?_
    refine V_goto 14 dX8_estimate_10 rfl ?_
    refine V_callVi (st := []) [.int 0] dX8_estimate_14 ok_mX8_goesWell rfl ml_RX8_112 in_mX8_goesWell se_mX8_goesWell (hS.n 51 rfl) (hS.k 51 8 rfl) (by decide) rfl (Nat.le_of_ble_eq_true rfl) (by decide) (by decide) (by decide) (s_mX8_goesWell hS h) (fun r6 I5 J9 h => ?_)
    obtain ⟨rfl, h⟩ := h
    refine V_if_eq 28 dX8_estimate_17 rfl (fun hc => ?_) (fun hc => ?_)
    · replace h := h.1 hc
      refine V_iconst (v := 0) dX8_estimate_28 (by decide) ?_
      exact V_iret dX8_estimate_29 rfl (by decide) (by decide) ⟨_, rfl, rfl, rfl, h⟩
    · replace h := h.2 hc
      refine V_aload_n dX8_estimate_20 rfl rfl ?_
      refine V_iload_n dX8_estimate_21 rfl rfl ?_
      refine V_callVi (st := []) [.int a1] dX8_estimate_22 ok_mX8_estimateOf rfl ml_RX8_259 in_mX8_estimateOf se_mX8_estimateOf (hS.n 51 rfl) (hS.k 51 8 rfl) (by decide) rfl (Nat.le_of_ble_eq_true rfl) (by decide) (by decide) (by decide) (s_mX8_estimateOf hS h) (fun r7 I9 J9 h => ?_)
      obtain ⟨rfl, rfl, h⟩ := h
      refine V_goto 29 dX8_estimate_25 rfl ?_
      exact V_iret dX8_estimate_29 rfl (by decide) (by decide) ⟨_, rfl, rfl, rfl, h⟩
def wX8_plan_48 (K147 : Int32 → Int32 → Int32 → QI → Prop) (post : QI → Prop) : Nat → Int32 → Int32 → Int32 → Int32 → Int32 → QI → Prop
  | 0, _, _, _, _, _, _ => False
  | n + 1, x1, x2, x3, x4, x5, I => ((x1 ≤ x5 → (K147 x1 x3 x4 I)) ∧ (¬ x1 ≤ x5 → ((¬ x3 = 0 → (K147 x1 x3 x4 I)) ∧ (x3 = 0 → ((¬ (x5 &&& (x1 ^^^ (-1))) = 0 → (∀ v4 : Int32, v4 = (x5 + 1) → (wX8_plan_48 K147 post n x1 x2 x3 x4 v4 I))) ∧ ((x5 &&& (x1 ^^^ (-1))) = 0 → (((x5 &&& x2) = 0 → (∀ v5 : Int32, v5 = (x5 + 1) → (wX8_plan_48 K147 post n x1 x2 x3 x4 v5 I))) ∧ (¬ (x5 &&& x2) = 0 → (vp_in x5 16 ∧ (vp_in (x1 &&& (x5 ^^^ (-1))) 16 ∧ (∀ v6 : Int32, v6 = ((I 76 (x5).toNatClampNeg) + (I 76 ((x1 &&& (x5 ^^^ (-1)))).toNatClampNeg)) → ((x4 = (-1) → (vp_in x1 16 ∧ (∀ I7 : QI, I7 = q_u2 I 77 (x1).toNatClampNeg x5 → (∀ v8 : Int32, v8 = (x5 + 1) → (wX8_plan_48 K147 post n x1 x2 x3 v6 v8 I7))))) ∧ (¬ x4 = (-1) → ((x4 ≤ v6 → (∀ v9 : Int32, v9 = (x5 + 1) → (wX8_plan_48 K147 post n x1 x2 x3 x4 v9 I))) ∧ (¬ x4 ≤ v6 → (vp_in x1 16 ∧ (∀ I10 : QI, I10 = q_u2 I 77 (x1).toNatClampNeg x5 → (∀ v11 : Int32, v11 = (x5 + 1) → (wX8_plan_48 K147 post n x1 x2 x3 v6 v11 I10)))))))))))))))))))
set_option maxRecDepth 100000 in
set_option maxHeartbeats 4000000 in
theorem swX8_plan_48 {X : QX} {S : QS} {J : QJ} {K147 : Int32 → Int32 → Int32 → QI → Prop} {post : QI → Prop} (hS : Sh S) (hK147 : ∀ (z1 : Int32) (z3 : Int32) (z4 : Int32) (I : QI), K147 z1 z3 z4 I → V X mX8_plan 3 0 0 (q_Pv S (fun I2 J2 => J = J2 ∧ post I2)) 147 [(0, .ref 51), (1, .int z1), (3, .int z3), (4, .int z4)] [] S I J 0 0) : ∀ (f : Nat) (x1 : Int32) (x2 : Int32) (x3 : Int32) (x4 : Int32) (x5 : Int32) (I : QI), wX8_plan_48 K147 post f x1 x2 x3 x4 x5 I → V X mX8_plan 3 0 0 (q_Pv S (fun I2 J2 => J = J2 ∧ post I2)) 48 [(0, .ref 51), (1, .int x1), (2, .int x2), (3, .int x3), (4, .int x4), (5, .int x5)] [] S I J 0 0 := by
  intro f
  induction f with
  | zero => intro x1 x2 x3 x4 x5 I h; exact h.elim
  | succ n ih =>
    intro x1 x2 x3 x4 x5 I h
    replace h : ((x1 ≤ x5 → (K147 x1 x3 x4 I)) ∧ (¬ x1 ≤ x5 → ((¬ x3 = 0 → (K147 x1 x3 x4 I)) ∧ (x3 = 0 → ((¬ (x5 &&& (x1 ^^^ (-1))) = 0 → (∀ v4 : Int32, v4 = (x5 + 1) → (wX8_plan_48 K147 post n x1 x2 x3 x4 v4 I))) ∧ ((x5 &&& (x1 ^^^ (-1))) = 0 → (((x5 &&& x2) = 0 → (∀ v5 : Int32, v5 = (x5 + 1) → (wX8_plan_48 K147 post n x1 x2 x3 x4 v5 I))) ∧ (¬ (x5 &&& x2) = 0 → (vp_in x5 16 ∧ (vp_in (x1 &&& (x5 ^^^ (-1))) 16 ∧ (∀ v6 : Int32, v6 = ((I 76 (x5).toNatClampNeg) + (I 76 ((x1 &&& (x5 ^^^ (-1)))).toNatClampNeg)) → ((x4 = (-1) → (vp_in x1 16 ∧ (∀ I7 : QI, I7 = q_u2 I 77 (x1).toNatClampNeg x5 → (∀ v8 : Int32, v8 = (x5 + 1) → (wX8_plan_48 K147 post n x1 x2 x3 v6 v8 I7))))) ∧ (¬ x4 = (-1) → ((x4 ≤ v6 → (∀ v9 : Int32, v9 = (x5 + 1) → (wX8_plan_48 K147 post n x1 x2 x3 x4 v9 I))) ∧ (¬ x4 ≤ v6 → (vp_in x1 16 ∧ (∀ I10 : QI, I10 = q_u2 I 77 (x1).toNatClampNeg x5 → (∀ v11 : Int32, v11 = (x5 + 1) → (wX8_plan_48 K147 post n x1 x2 x3 v6 v11 I10))))))))))))))))))) := h
    refine V_iload dX8_plan_48 rfl ?_
    refine V_iload_n dX8_plan_50 rfl rfl ?_
    refine V_icmp_ge 147 dX8_plan_51 rfl (fun hc => ?_) (fun hc => ?_)
    · replace h := h.1 hc
      refine V_sub (lo2 := [(0, .ref 51), (1, .int x1), (3, .int x3), (4, .int x4)]) [0, 1, 3, 4] rfl ?_
      exact hK147 _ _ _ _ h
    · replace h := h.2 hc
      refine V_iload_n dX8_plan_54 rfl rfl ?_
      refine V_if_ne 147 dX8_plan_55 rfl (fun hc => ?_) (fun hc => ?_)
      · replace h := h.1 hc
        refine V_sub (lo2 := [(0, .ref 51), (1, .int x1), (3, .int x3), (4, .int x4)]) [0, 1, 3, 4] rfl ?_
        exact hK147 _ _ _ _ h
      · replace h := h.2 hc
        refine V_iload dX8_plan_58 rfl ?_
        refine V_iload_n dX8_plan_60 rfl rfl ?_
        refine V_iconst (v := (-1)) dX8_plan_61 (by decide) ?_
        refine V_ixor dX8_plan_62 ?_
        refine V_iand dX8_plan_63 ?_
        refine V_if_ne 78 dX8_plan_64 rfl (fun hc => ?_) (fun hc => ?_)
        · replace h := h.1 hc
          refine V_iconst (v := 0) dX8_plan_78 (by decide) ?_
          refine V_istore (lo2 := [(6, .int 0), (0, .ref 51), (1, .int x1), (2, .int x2), (3, .int x3), (4, .int x4), (5, .int x5)]) dX8_plan_79 (by decide) rfl ?_
          refine V_iload dX8_plan_81 rfl ?_
          refine V_if_eq 108 dX8_plan_83 rfl (fun hc => ?_) (fun hc => ?_)
          · refine V_iconst (v := 0) dX8_plan_108 (by decide) ?_
            refine V_istore (lo2 := [(7, .int 0), (6, .int 0), (0, .ref 51), (1, .int x1), (2, .int x2), (3, .int x3), (4, .int x4), (5, .int x5)]) dX8_plan_109 (by decide) rfl ?_
            refine V_iload dX8_plan_111 rfl ?_
            refine V_if_eq 141 dX8_plan_113 rfl (fun hc => ?_) (fun hc => ?_)
            · obtain ⟨v4, e_v4⟩ : ∃ z : Int32, z = (x5 + 1) := ⟨_, rfl⟩
              replace h := h v4 e_v4
              refine V_iinc (lo2 := [(5, .int v4), (7, .int 0), (6, .int 0), (0, .ref 51), (1, .int x1), (2, .int x2), (3, .int x3), (4, .int x4)]) 7 dX8_plan_141 rfl (v := v4) (by rw [e_v4]; first | done | rfl) (by decide) rfl ?_
              refine V_goto 48 dX8_plan_144 rfl ?_
              refine V_sub (lo2 := [(0, .ref 51), (1, .int x1), (2, .int x2), (3, .int x3), (4, .int x4), (5, .int v4)]) [3, 4, 5, 6, 7, 0] rfl ?_
              exact ih _ _ _ _ _ _ h
            · first | exact absurd hc (by decide) | exact absurd (by decide) hc
          · first | exact absurd hc (by decide) | exact absurd (by decide) hc
        · replace h := h.2 hc
          refine V_iload dX8_plan_67 rfl ?_
          refine V_iload_n dX8_plan_69 rfl rfl ?_
          refine V_iand dX8_plan_70 ?_
          refine V_if_eq 78 dX8_plan_71 rfl (fun hc => ?_) (fun hc => ?_)
          · replace h := h.1 hc
            refine V_iconst (v := 0) dX8_plan_78 (by decide) ?_
            refine V_istore (lo2 := [(6, .int 0), (0, .ref 51), (1, .int x1), (2, .int x2), (3, .int x3), (4, .int x4), (5, .int x5)]) dX8_plan_79 (by decide) rfl ?_
            refine V_iload dX8_plan_81 rfl ?_
            refine V_if_eq 108 dX8_plan_83 rfl (fun hc => ?_) (fun hc => ?_)
            · refine V_iconst (v := 0) dX8_plan_108 (by decide) ?_
              refine V_istore (lo2 := [(7, .int 0), (6, .int 0), (0, .ref 51), (1, .int x1), (2, .int x2), (3, .int x3), (4, .int x4), (5, .int x5)]) dX8_plan_109 (by decide) rfl ?_
              refine V_iload dX8_plan_111 rfl ?_
              refine V_if_eq 141 dX8_plan_113 rfl (fun hc => ?_) (fun hc => ?_)
              · obtain ⟨v5, e_v5⟩ : ∃ z : Int32, z = (x5 + 1) := ⟨_, rfl⟩
                replace h := h v5 e_v5
                refine V_iinc (lo2 := [(5, .int v5), (7, .int 0), (6, .int 0), (0, .ref 51), (1, .int x1), (2, .int x2), (3, .int x3), (4, .int x4)]) 7 dX8_plan_141 rfl (v := v5) (by rw [e_v5]; first | done | rfl) (by decide) rfl ?_
                refine V_goto 48 dX8_plan_144 rfl ?_
                refine V_sub (lo2 := [(0, .ref 51), (1, .int x1), (2, .int x2), (3, .int x3), (4, .int x4), (5, .int v5)]) [3, 4, 5, 6, 7, 0] rfl ?_
                exact ih _ _ _ _ _ _ h
              · first | exact absurd hc (by decide) | exact absurd (by decide) hc
            · first | exact absurd hc (by decide) | exact absurd (by decide) hc
          · replace h := h.2 hc
            refine V_iconst (v := 1) dX8_plan_74 (by decide) ?_
            refine V_goto 79 dX8_plan_75 rfl ?_
            refine V_istore (lo2 := [(6, .int 1), (0, .ref 51), (1, .int x1), (2, .int x2), (3, .int x3), (4, .int x4), (5, .int x5)]) dX8_plan_79 (by decide) rfl ?_
            refine V_iload dX8_plan_81 rfl ?_
            refine V_if_eq 108 dX8_plan_83 rfl (fun hc => ?_) (fun hc => ?_)
            · first | exact absurd hc (by decide) | exact absurd (by decide) hc
            · refine V_aload_n dX8_plan_86 rfl rfl ?_
              refine V_getr dX8_plan_87 fl_RX8_89 (hS.n 51 rfl) (hS.k 51 8 rfl) rfl (hS.r 51 33 76 rfl) ?_
              refine V_iload dX8_plan_90 rfl ?_
              obtain ⟨hb, h⟩ := h
              refine V_iald dX8_plan_92 (hS.n 76 rfl) (hS.k 76 9 rfl) (by rw [(hS.z 76 16 rfl)]; exact hb) ?_
              refine V_aload_n dX8_plan_93 rfl rfl ?_
              refine V_getr dX8_plan_94 fl_RX8_89 (hS.n 51 rfl) (hS.k 51 8 rfl) rfl (hS.r 51 33 76 rfl) ?_
              refine V_iload_n dX8_plan_97 rfl rfl ?_
              refine V_iload dX8_plan_98 rfl ?_
              refine V_iconst (v := (-1)) dX8_plan_100 (by decide) ?_
              refine V_ixor dX8_plan_101 ?_
              refine V_iand dX8_plan_102 ?_
              obtain ⟨hb, h⟩ := h
              refine V_iald dX8_plan_103 (hS.n 76 rfl) (hS.k 76 9 rfl) (by rw [(hS.z 76 16 rfl)]; exact hb) ?_
              refine V_iadd dX8_plan_104 ?_
              refine V_goto 109 dX8_plan_105 rfl ?_
              refine V_topi (fun v6 e_v6 => ?_)
              replace h := h v6 e_v6
              refine V_istore (lo2 := [(7, .int v6), (6, .int 1), (0, .ref 51), (1, .int x1), (2, .int x2), (3, .int x3), (4, .int x4), (5, .int x5)]) dX8_plan_109 (by decide) rfl ?_
              refine V_iload dX8_plan_111 rfl ?_
              refine V_if_eq 141 dX8_plan_113 rfl (fun hc => ?_) (fun hc => ?_)
              · first | exact absurd hc (by decide) | exact absurd (by decide) hc
              · refine V_iload dX8_plan_116 rfl ?_
                refine V_iconst (v := (-1)) dX8_plan_118 (by decide) ?_
                refine V_icmp_eq 129 dX8_plan_119 rfl (fun hc => ?_) (fun hc => ?_)
                · replace h := h.1 hc
                  refine V_iload dX8_plan_129 rfl ?_
                  refine V_istore (lo2 := [(4, .int v6), (7, .int v6), (6, .int 1), (0, .ref 51), (1, .int x1), (2, .int x2), (3, .int x3), (5, .int x5)]) dX8_plan_131 (by decide) rfl ?_
                  refine V_aload_n dX8_plan_133 rfl rfl ?_
                  refine V_getr dX8_plan_134 fl_RX8_92 (hS.n 51 rfl) (hS.k 51 8 rfl) rfl (hS.r 51 34 77 rfl) ?_
                  refine V_iload_n dX8_plan_137 rfl rfl ?_
                  refine V_iload dX8_plan_138 rfl ?_
                  obtain ⟨hb, h⟩ := h
                  refine V_iast dX8_plan_140 (hS.n 77 rfl) (hS.k 77 9 rfl) (by rw [(hS.z 77 16 rfl)]; exact hb) ?_
                  refine V_memI (fun I7 e_I7 => ?_)
                  replace h := h I7 e_I7
                  obtain ⟨v8, e_v8⟩ : ∃ z : Int32, z = (x5 + 1) := ⟨_, rfl⟩
                  replace h := h v8 e_v8
                  refine V_iinc (lo2 := [(5, .int v8), (4, .int v6), (7, .int v6), (6, .int 1), (0, .ref 51), (1, .int x1), (2, .int x2), (3, .int x3)]) 7 dX8_plan_141 rfl (v := v8) (by rw [e_v8]; first | done | rfl) (by decide) rfl ?_
                  refine V_goto 48 dX8_plan_144 rfl ?_
                  refine V_sub (lo2 := [(0, .ref 51), (1, .int x1), (2, .int x2), (3, .int x3), (4, .int v6), (5, .int v8)]) [4, 5, 6, 7, 1, 0] rfl ?_
                  exact ih _ _ _ _ _ _ h
                · replace h := h.2 hc
                  refine V_iload dX8_plan_122 rfl ?_
                  refine V_iload dX8_plan_124 rfl ?_
                  refine V_icmp_ge 141 dX8_plan_126 rfl (fun hc => ?_) (fun hc => ?_)
                  · replace h := h.1 hc
                    obtain ⟨v9, e_v9⟩ : ∃ z : Int32, z = (x5 + 1) := ⟨_, rfl⟩
                    replace h := h v9 e_v9
                    refine V_iinc (lo2 := [(5, .int v9), (7, .int v6), (6, .int 1), (0, .ref 51), (1, .int x1), (2, .int x2), (3, .int x3), (4, .int x4)]) 7 dX8_plan_141 rfl (v := v9) (by rw [e_v9]; first | done | rfl) (by decide) rfl ?_
                    refine V_goto 48 dX8_plan_144 rfl ?_
                    refine V_sub (lo2 := [(0, .ref 51), (1, .int x1), (2, .int x2), (3, .int x3), (4, .int x4), (5, .int v9)]) [3, 4, 5, 6, 7, 0] rfl ?_
                    exact ih _ _ _ _ _ _ h
                  · replace h := h.2 hc
                    refine V_iload dX8_plan_129 rfl ?_
                    refine V_istore (lo2 := [(4, .int v6), (7, .int v6), (6, .int 1), (0, .ref 51), (1, .int x1), (2, .int x2), (3, .int x3), (5, .int x5)]) dX8_plan_131 (by decide) rfl ?_
                    refine V_aload_n dX8_plan_133 rfl rfl ?_
                    refine V_getr dX8_plan_134 fl_RX8_92 (hS.n 51 rfl) (hS.k 51 8 rfl) rfl (hS.r 51 34 77 rfl) ?_
                    refine V_iload_n dX8_plan_137 rfl rfl ?_
                    refine V_iload dX8_plan_138 rfl ?_
                    obtain ⟨hb, h⟩ := h
                    refine V_iast dX8_plan_140 (hS.n 77 rfl) (hS.k 77 9 rfl) (by rw [(hS.z 77 16 rfl)]; exact hb) ?_
                    refine V_memI (fun I10 e_I10 => ?_)
                    replace h := h I10 e_I10
                    obtain ⟨v11, e_v11⟩ : ∃ z : Int32, z = (x5 + 1) := ⟨_, rfl⟩
                    replace h := h v11 e_v11
                    refine V_iinc (lo2 := [(5, .int v11), (4, .int v6), (7, .int v6), (6, .int 1), (0, .ref 51), (1, .int x1), (2, .int x2), (3, .int x3)]) 7 dX8_plan_141 rfl (v := v11) (by rw [e_v11]; first | done | rfl) (by decide) rfl ?_
                    refine V_goto 48 dX8_plan_144 rfl ?_
                    refine V_sub (lo2 := [(0, .ref 51), (1, .int x1), (2, .int x2), (3, .int x3), (4, .int v6), (5, .int v11)]) [4, 5, 6, 7, 1, 0] rfl ?_
                    exact ih _ _ _ _ _ _ h
def wX8_plan_2 (post : QI → Prop) : Nat → Int32 → QI → Prop
  | 0, _, _ => False
  | n + 1, x1, I => (((1 <<< ((I 51 1) &&& 31)) ≤ x1 → post I) ∧ (¬ (1 <<< ((I 51 1) &&& 31)) ≤ x1 → (∀ v1 : Int32, v1 = (x1 &&& (-x1)) → (vp_in x1 16 ∧ (∀ I2 : QI, I2 = q_u2 I 77 (x1).toNatClampNeg x1 → (vp_in x1 16 ∧ (∀ I3 : QI, I3 = q_u2 I2 76 (x1).toNatClampNeg 0 → ((¬ x1 = v1 → (∃ f : Nat, wX8_plan_48 (fun u12 u13 u14 I15 => ((u13 = 0 → (wX8_estimateOf u12 I15 (fun r16 => (vp_in u12 16 ∧ (∀ I17 : QI, I17 = q_u2 I15 76 (u12).toNatClampNeg (u14 + r16) → (∀ v18 : Int32, v18 = (u12 + 1) → (wX8_plan_2 post n v18 I17))))))) ∧ (¬ u13 = 0 → (vp_in u12 16 ∧ (∀ I19 : QI, I19 = q_u2 I15 76 (u12).toNatClampNeg 0 → (∀ v20 : Int32, v20 = (u12 + 1) → (wX8_plan_2 post n v20 I19))))))) post f x1 v1 0 (-1) 1 I3)) ∧ (x1 = v1 → (∃ f : Nat, wX8_plan_48 (fun u21 u22 u23 I24 => ((u22 = 0 → (wX8_estimateOf u21 I24 (fun r25 => (vp_in u21 16 ∧ (∀ I26 : QI, I26 = q_u2 I24 76 (u21).toNatClampNeg (u23 + r25) → (∀ v27 : Int32, v27 = (u21 + 1) → (wX8_plan_2 post n v27 I26))))))) ∧ (¬ u22 = 0 → (vp_in u21 16 ∧ (∀ I28 : QI, I28 = q_u2 I24 76 (u21).toNatClampNeg 0 → (∀ v29 : Int32, v29 = (u21 + 1) → (wX8_plan_2 post n v29 I28))))))) post f x1 v1 1 (-1) 1 I3))))))))))
set_option maxRecDepth 100000 in
set_option maxHeartbeats 4000000 in
theorem swX8_plan_2 {X : QX} {S : QS} {J : QJ} {post : QI → Prop} (hS : Sh S) : ∀ (f : Nat) (x1 : Int32) (I : QI), wX8_plan_2 post f x1 I → V X mX8_plan 3 0 0 (q_Pv S (fun I2 J2 => J = J2 ∧ post I2)) 2 [(0, .ref 51), (1, .int x1)] [] S I J 0 0 := by
  intro f
  induction f with
  | zero => intro x1 I h; exact h.elim
  | succ n ih =>
    intro x1 I h
    replace h : (((1 <<< ((I 51 1) &&& 31)) ≤ x1 → post I) ∧ (¬ (1 <<< ((I 51 1) &&& 31)) ≤ x1 → (∀ v1 : Int32, v1 = (x1 &&& (-x1)) → (vp_in x1 16 ∧ (∀ I2 : QI, I2 = q_u2 I 77 (x1).toNatClampNeg x1 → (vp_in x1 16 ∧ (∀ I3 : QI, I3 = q_u2 I2 76 (x1).toNatClampNeg 0 → ((¬ x1 = v1 → (∃ f : Nat, wX8_plan_48 (fun u12 u13 u14 I15 => ((u13 = 0 → (wX8_estimateOf u12 I15 (fun r16 => (vp_in u12 16 ∧ (∀ I17 : QI, I17 = q_u2 I15 76 (u12).toNatClampNeg (u14 + r16) → (∀ v18 : Int32, v18 = (u12 + 1) → (wX8_plan_2 post n v18 I17))))))) ∧ (¬ u13 = 0 → (vp_in u12 16 ∧ (∀ I19 : QI, I19 = q_u2 I15 76 (u12).toNatClampNeg 0 → (∀ v20 : Int32, v20 = (u12 + 1) → (wX8_plan_2 post n v20 I19))))))) post f x1 v1 0 (-1) 1 I3)) ∧ (x1 = v1 → (∃ f : Nat, wX8_plan_48 (fun u21 u22 u23 I24 => ((u22 = 0 → (wX8_estimateOf u21 I24 (fun r25 => (vp_in u21 16 ∧ (∀ I26 : QI, I26 = q_u2 I24 76 (u21).toNatClampNeg (u23 + r25) → (∀ v27 : Int32, v27 = (u21 + 1) → (wX8_plan_2 post n v27 I26))))))) ∧ (¬ u22 = 0 → (vp_in u21 16 ∧ (∀ I28 : QI, I28 = q_u2 I24 76 (u21).toNatClampNeg 0 → (∀ v29 : Int32, v29 = (u21 + 1) → (wX8_plan_2 post n v29 I28))))))) post f x1 v1 1 (-1) 1 I3)))))))))) := h
    refine V_iload_n dX8_plan_2 rfl rfl ?_
    refine V_iconst (v := 1) dX8_plan_3 (by decide) ?_
    refine V_aload_n dX8_plan_4 rfl rfl ?_
    refine V_geti dX8_plan_5 fl_RX8_101 (hS.n 51 rfl) (hS.k 51 8 rfl) rfl ?_
    refine V_ishl dX8_plan_8 ?_
    refine V_icmp_ge 175 dX8_plan_9 rfl (fun hc => ?_) (fun hc => ?_)
    · replace h := h.1 hc
      exact V_vret dX8_plan_175 rfl (by decide) (by decide) ⟨rfl, rfl, rfl, h⟩
    · replace h := h.2 hc
      refine V_iload_n dX8_plan_12 rfl rfl ?_
      refine V_iload_n dX8_plan_13 rfl rfl ?_
      refine V_ineg dX8_plan_14 ?_
      refine V_iand dX8_plan_15 ?_
      refine V_topi (fun v1 e_v1 => ?_)
      replace h := h v1 e_v1
      refine V_istore_n (lo2 := [(2, .int v1), (0, .ref 51), (1, .int x1)]) dX8_plan_16 rfl (by decide) rfl ?_
      refine V_aload_n dX8_plan_17 rfl rfl ?_
      refine V_getr dX8_plan_18 fl_RX8_92 (hS.n 51 rfl) (hS.k 51 8 rfl) rfl (hS.r 51 34 77 rfl) ?_
      refine V_iload_n dX8_plan_21 rfl rfl ?_
      refine V_iload_n dX8_plan_22 rfl rfl ?_
      obtain ⟨hb, h⟩ := h
      refine V_iast dX8_plan_23 (hS.n 77 rfl) (hS.k 77 9 rfl) (by rw [(hS.z 77 16 rfl)]; exact hb) ?_
      refine V_memI (fun I2 e_I2 => ?_)
      replace h := h I2 e_I2
      refine V_aload_n dX8_plan_24 rfl rfl ?_
      refine V_getr dX8_plan_25 fl_RX8_89 (hS.n 51 rfl) (hS.k 51 8 rfl) rfl (hS.r 51 33 76 rfl) ?_
      refine V_iload_n dX8_plan_28 rfl rfl ?_
      refine V_iconst (v := 0) dX8_plan_29 (by decide) ?_
      obtain ⟨hb, h⟩ := h
      refine V_iast dX8_plan_30 (hS.n 76 rfl) (hS.k 76 9 rfl) (by rw [(hS.z 76 16 rfl)]; exact hb) ?_
      refine V_memI (fun I3 e_I3 => ?_)
      replace h := h I3 e_I3
      refine V_iload_n dX8_plan_31 rfl rfl ?_
      refine V_iload_n dX8_plan_32 rfl rfl ?_
      refine V_icmp_ne 40 dX8_plan_33 rfl (fun hc => ?_) (fun hc => ?_)
      · replace h := h.1 hc
        refine V_iconst (v := 0) dX8_plan_40 (by decide) ?_
        refine V_istore_n (lo2 := [(3, .int 0), (2, .int v1), (0, .ref 51), (1, .int x1)]) dX8_plan_41 rfl (by decide) rfl ?_
        refine V_iconst (v := (-1)) dX8_plan_42 (by decide) ?_
        refine V_istore (lo2 := [(4, .int (-1)), (3, .int 0), (2, .int v1), (0, .ref 51), (1, .int x1)]) dX8_plan_43 (by decide) rfl ?_
        refine V_iconst (v := 1) dX8_plan_45 (by decide) ?_
        refine V_istore (lo2 := [(5, .int 1), (4, .int (-1)), (3, .int 0), (2, .int v1), (0, .ref 51), (1, .int x1)]) dX8_plan_46 (by decide) rfl ?_
        refine V_sub (lo2 := [(0, .ref 51), (1, .int x1), (2, .int v1), (3, .int 0), (4, .int (-1)), (5, .int 1)]) [4, 5, 3, 2, 1, 0] rfl ?_
        obtain ⟨f9, h⟩ := h
        refine swX8_plan_48 hS ?_ f9 _ _ _ _ _ _ h
        · intro u12 u13 u14 I15 h
          refine V_aload_n dX8_plan_147 rfl rfl ?_
          refine V_getr dX8_plan_148 fl_RX8_89 (hS.n 51 rfl) (hS.k 51 8 rfl) rfl (hS.r 51 33 76 rfl) ?_
          refine V_iload_n dX8_plan_151 rfl rfl ?_
          refine V_iload_n dX8_plan_152 rfl rfl ?_
          refine V_if_eq 160 dX8_plan_153 rfl (fun hc => ?_) (fun hc => ?_)
          · replace h := h.1 hc
            refine V_iload dX8_plan_160 rfl ?_
            refine V_aload_n dX8_plan_162 rfl rfl ?_
            refine V_iload_n dX8_plan_163 rfl rfl ?_
            refine V_callVi (st := [.int u14, .int u12, .ref 76]) [.int u12] dX8_plan_164 ok_mX8_estimateOf rfl ml_RX8_259 in_mX8_estimateOf se_mX8_estimateOf (hS.n 51 rfl) (hS.k 51 8 rfl) (by decide) rfl (Nat.le_of_ble_eq_true rfl) (by decide) (by decide) (by decide) (s_mX8_estimateOf hS h) (fun r16 I9 J9 h => ?_)
            obtain ⟨rfl, rfl, h⟩ := h
            refine V_iadd dX8_plan_167 ?_
            obtain ⟨hb, h⟩ := h
            refine V_iast dX8_plan_168 (hS.n 76 rfl) (hS.k 76 9 rfl) (by rw [(hS.z 76 16 rfl)]; exact hb) ?_
            refine V_memI (fun I17 e_I17 => ?_)
            replace h := h I17 e_I17
            obtain ⟨v18, e_v18⟩ : ∃ z : Int32, z = (u12 + 1) := ⟨_, rfl⟩
            replace h := h v18 e_v18
            refine V_iinc (lo2 := [(1, .int v18), (0, .ref 51), (3, .int u13), (4, .int u14)]) 1 dX8_plan_169 rfl (v := v18) (by rw [e_v18]; first | done | rfl) (by decide) rfl ?_
            refine V_goto 2 dX8_plan_172 rfl ?_
            refine V_sub (lo2 := [(0, .ref 51), (1, .int v18)]) [1, 0] rfl ?_
            exact ih _ _ h
          · replace h := h.2 hc
            refine V_iconst (v := 0) dX8_plan_156 (by decide) ?_
            refine V_goto 168 dX8_plan_157 rfl ?_
            obtain ⟨hb, h⟩ := h
            refine V_iast dX8_plan_168 (hS.n 76 rfl) (hS.k 76 9 rfl) (by rw [(hS.z 76 16 rfl)]; exact hb) ?_
            refine V_memI (fun I19 e_I19 => ?_)
            replace h := h I19 e_I19
            obtain ⟨v20, e_v20⟩ : ∃ z : Int32, z = (u12 + 1) := ⟨_, rfl⟩
            replace h := h v20 e_v20
            refine V_iinc (lo2 := [(1, .int v20), (0, .ref 51), (3, .int u13), (4, .int u14)]) 1 dX8_plan_169 rfl (v := v20) (by rw [e_v20]; first | done | rfl) (by decide) rfl ?_
            refine V_goto 2 dX8_plan_172 rfl ?_
            refine V_sub (lo2 := [(0, .ref 51), (1, .int v20)]) [1, 0] rfl ?_
            exact ih _ _ h
      · replace h := h.2 hc
        refine V_iconst (v := 1) dX8_plan_36 (by decide) ?_
        refine V_goto 41 dX8_plan_37 rfl ?_
        refine V_istore_n (lo2 := [(3, .int 1), (2, .int v1), (0, .ref 51), (1, .int x1)]) dX8_plan_41 rfl (by decide) rfl ?_
        refine V_iconst (v := (-1)) dX8_plan_42 (by decide) ?_
        refine V_istore (lo2 := [(4, .int (-1)), (3, .int 1), (2, .int v1), (0, .ref 51), (1, .int x1)]) dX8_plan_43 (by decide) rfl ?_
        refine V_iconst (v := 1) dX8_plan_45 (by decide) ?_
        refine V_istore (lo2 := [(5, .int 1), (4, .int (-1)), (3, .int 1), (2, .int v1), (0, .ref 51), (1, .int x1)]) dX8_plan_46 (by decide) rfl ?_
        refine V_sub (lo2 := [(0, .ref 51), (1, .int x1), (2, .int v1), (3, .int 1), (4, .int (-1)), (5, .int 1)]) [4, 5, 3, 2, 1, 0] rfl ?_
        obtain ⟨f9, h⟩ := h
        refine swX8_plan_48 hS ?_ f9 _ _ _ _ _ _ h
        · intro u21 u22 u23 I24 h
          refine V_aload_n dX8_plan_147 rfl rfl ?_
          refine V_getr dX8_plan_148 fl_RX8_89 (hS.n 51 rfl) (hS.k 51 8 rfl) rfl (hS.r 51 33 76 rfl) ?_
          refine V_iload_n dX8_plan_151 rfl rfl ?_
          refine V_iload_n dX8_plan_152 rfl rfl ?_
          refine V_if_eq 160 dX8_plan_153 rfl (fun hc => ?_) (fun hc => ?_)
          · replace h := h.1 hc
            refine V_iload dX8_plan_160 rfl ?_
            refine V_aload_n dX8_plan_162 rfl rfl ?_
            refine V_iload_n dX8_plan_163 rfl rfl ?_
            refine V_callVi (st := [.int u23, .int u21, .ref 76]) [.int u21] dX8_plan_164 ok_mX8_estimateOf rfl ml_RX8_259 in_mX8_estimateOf se_mX8_estimateOf (hS.n 51 rfl) (hS.k 51 8 rfl) (by decide) rfl (Nat.le_of_ble_eq_true rfl) (by decide) (by decide) (by decide) (s_mX8_estimateOf hS h) (fun r25 I9 J9 h => ?_)
            obtain ⟨rfl, rfl, h⟩ := h
            refine V_iadd dX8_plan_167 ?_
            obtain ⟨hb, h⟩ := h
            refine V_iast dX8_plan_168 (hS.n 76 rfl) (hS.k 76 9 rfl) (by rw [(hS.z 76 16 rfl)]; exact hb) ?_
            refine V_memI (fun I26 e_I26 => ?_)
            replace h := h I26 e_I26
            obtain ⟨v27, e_v27⟩ : ∃ z : Int32, z = (u21 + 1) := ⟨_, rfl⟩
            replace h := h v27 e_v27
            refine V_iinc (lo2 := [(1, .int v27), (0, .ref 51), (3, .int u22), (4, .int u23)]) 1 dX8_plan_169 rfl (v := v27) (by rw [e_v27]; first | done | rfl) (by decide) rfl ?_
            refine V_goto 2 dX8_plan_172 rfl ?_
            refine V_sub (lo2 := [(0, .ref 51), (1, .int v27)]) [1, 0] rfl ?_
            exact ih _ _ h
          · replace h := h.2 hc
            refine V_iconst (v := 0) dX8_plan_156 (by decide) ?_
            refine V_goto 168 dX8_plan_157 rfl ?_
            obtain ⟨hb, h⟩ := h
            refine V_iast dX8_plan_168 (hS.n 76 rfl) (hS.k 76 9 rfl) (by rw [(hS.z 76 16 rfl)]; exact hb) ?_
            refine V_memI (fun I28 e_I28 => ?_)
            replace h := h I28 e_I28
            obtain ⟨v29, e_v29⟩ : ∃ z : Int32, z = (u21 + 1) := ⟨_, rfl⟩
            replace h := h v29 e_v29
            refine V_iinc (lo2 := [(1, .int v29), (0, .ref 51), (3, .int u22), (4, .int u23)]) 1 dX8_plan_169 rfl (v := v29) (by rw [e_v29]; first | done | rfl) (by decide) rfl ?_
            refine V_goto 2 dX8_plan_172 rfl ?_
            refine V_sub (lo2 := [(0, .ref 51), (1, .int v29)]) [1, 0] rfl ?_
            exact ih _ _ h
def wX8_plan (I : QI) (post : QI → Prop) : Prop := (∃ f : Nat, wX8_plan_2 post f 1 I)
set_option maxRecDepth 100000 in
set_option maxHeartbeats 4000000 in
theorem s_mX8_plan {X : QX} {S : QS} {I : QI} {J : QJ} {post : QI → Prop} (hS : Sh S) (h : wX8_plan I post) : CX X mX8_plan 3 0 0 [.ref 51] S I J (q_Pv S (fun I2 J2 => J = J2 ∧ post I2)) := by
  refine CX.of (lo := [(0, .ref 51)]) ok_mX8_plan rfl (Nat.le_of_ble_eq_true rfl) rfl ?_
  replace h : (∃ f : Nat, wX8_plan_2 post f 1 I) := h
  refine V_iconst (v := 1) dX8_plan_0 (by decide) ?_
  refine V_istore_n (lo2 := [(1, .int 1), (0, .ref 51)]) dX8_plan_1 rfl (by decide) rfl ?_
  refine V_sub (lo2 := [(0, .ref 51), (1, .int 1)]) [1, 0] rfl ?_
  obtain ⟨f9, h⟩ := h
  refine swX8_plan_2 hS f9 _ _ h
def wX8_cost (a1 : Int32) (I : QI) (post : Int32 → QI → Prop) : Prop := (wX8_plan I (fun I1 => (wX8_isSet a1 I1 (fun r2 => ((r2 = 0 → (wX8_goesWell 1 I1 (fun r4 I3 => ((r4 = 0 → post 0 I3) ∧ (¬ r4 = 0 → (vp_in a1 16 ∧ post (I3 76 (a1).toNatClampNeg) I3)))))) ∧ (¬ r2 = 0 → (wX8_goesWell 0 I1 (fun r6 I5 => ((r6 = 0 → post 0 I5) ∧ (¬ r6 = 0 → (vp_in a1 16 ∧ post (I5 76 (a1).toNatClampNeg) I5)))))))))))
set_option maxRecDepth 100000 in
set_option maxHeartbeats 4000000 in
theorem s_mX8_cost {X : QX} {S : QS} {a1 : Int32} {I : QI} {J : QJ} {post : Int32 → QI → Prop} (hS : Sh S) (h : wX8_cost a1 I post) : CX X mX8_cost 4 0 0 [.ref 51, .int a1] S I J (q_Pi S (fun r I2 J2 => J = J2 ∧ post r I2)) := by
  refine CX.of (lo := [(0, .ref 51), (1, .int a1)]) ok_mX8_cost rfl (Nat.le_of_ble_eq_true rfl) rfl ?_
  replace h : (wX8_plan I (fun I1 => (wX8_isSet a1 I1 (fun r2 => ((r2 = 0 → (wX8_goesWell 1 I1 (fun r4 I3 => ((r4 = 0 → post 0 I3) ∧ (¬ r4 = 0 → (vp_in a1 16 ∧ post (I3 76 (a1).toNatClampNeg) I3)))))) ∧ (¬ r2 = 0 → (wX8_goesWell 0 I1 (fun r6 I5 => ((r6 = 0 → post 0 I5) ∧ (¬ r6 = 0 → (vp_in a1 16 ∧ post (I5 76 (a1).toNatClampNeg) I5))))))))))) := h
  refine V_aload_n dX8_cost_0 rfl rfl ?_
  refine V_callVv (st := []) [] dX8_cost_1 ok_mX8_plan rfl ml_RX8_263 in_mX8_plan se_mX8_plan (hS.n 51 rfl) (hS.k 51 8 rfl) (by decide) rfl (Nat.le_of_ble_eq_true rfl) (by decide) (by decide) (by decide) (s_mX8_plan hS h) (fun I1 J9 h => ?_)
  obtain ⟨rfl, h⟩ := h
  refine V_aload_n dX8_cost_4 rfl rfl ?_
  refine V_aload_n dX8_cost_5 rfl rfl ?_
  refine V_iload_n dX8_cost_6 rfl rfl ?_
  refine V_callVi (st := [.ref 51]) [.int a1] dX8_cost_7 ok_mX8_isSet rfl ml_RX8_256 in_mX8_isSet se_mX8_isSet (hS.n 51 rfl) (hS.k 51 8 rfl) (by decide) rfl (Nat.le_of_ble_eq_true rfl) (by decide) (by decide) (by decide) (s_mX8_isSet hS h) (fun r2 I9 J9 h => ?_)
  obtain ⟨rfl, rfl, h⟩ := h
  refine V_if_eq 17 dX8_cost_10 rfl (fun hc => ?_) (fun hc => ?_)
  · replace h := h.1 hc
    refine V_iconst (v := 1) dX8_cost_17 (by decide) ?_
    refine V_callVi (st := []) [.int 1] dX8_cost_18 ok_mX8_goesWell rfl ml_RX8_112 in_mX8_goesWell se_mX8_goesWell (hS.n 51 rfl) (hS.k 51 8 rfl) (by decide) rfl (Nat.le_of_ble_eq_true rfl) (by decide) (by decide) (by decide) (s_mX8_goesWell hS h) (fun r4 I3 J9 h => ?_)
    obtain ⟨rfl, h⟩ := h
    refine V_if_eq 33 dX8_cost_21 rfl (fun hc => ?_) (fun hc => ?_)
    · replace h := h.1 hc
      refine V_iconst (v := 0) dX8_cost_33 (by decide) ?_
      exact V_iret dX8_cost_34 rfl (by decide) (by decide) ⟨_, rfl, rfl, rfl, h⟩
    · replace h := h.2 hc
      refine V_aload_n dX8_cost_24 rfl rfl ?_
      refine V_getr dX8_cost_25 fl_RX8_89 (hS.n 51 rfl) (hS.k 51 8 rfl) rfl (hS.r 51 33 76 rfl) ?_
      refine V_iload_n dX8_cost_28 rfl rfl ?_
      obtain ⟨hb, h⟩ := h
      refine V_iald dX8_cost_29 (hS.n 76 rfl) (hS.k 76 9 rfl) (by rw [(hS.z 76 16 rfl)]; exact hb) ?_
      refine V_goto 34 dX8_cost_30 rfl ?_
      exact V_iret dX8_cost_34 rfl (by decide) (by decide) ⟨_, rfl, rfl, rfl, h⟩
  · replace h := h.2 hc
    refine V_iconst (v := 0) dX8_cost_13 (by decide) ?_
    refine V_goto 18 dX8_cost_14 rfl ?_
    refine V_callVi (st := []) [.int 0] dX8_cost_18 ok_mX8_goesWell rfl ml_RX8_112 in_mX8_goesWell se_mX8_goesWell (hS.n 51 rfl) (hS.k 51 8 rfl) (by decide) rfl (Nat.le_of_ble_eq_true rfl) (by decide) (by decide) (by decide) (s_mX8_goesWell hS h) (fun r6 I5 J9 h => ?_)
    obtain ⟨rfl, h⟩ := h
    refine V_if_eq 33 dX8_cost_21 rfl (fun hc => ?_) (fun hc => ?_)
    · replace h := h.1 hc
      refine V_iconst (v := 0) dX8_cost_33 (by decide) ?_
      exact V_iret dX8_cost_34 rfl (by decide) (by decide) ⟨_, rfl, rfl, rfl, h⟩
    · replace h := h.2 hc
      refine V_aload_n dX8_cost_24 rfl rfl ?_
      refine V_getr dX8_cost_25 fl_RX8_89 (hS.n 51 rfl) (hS.k 51 8 rfl) rfl (hS.r 51 33 76 rfl) ?_
      refine V_iload_n dX8_cost_28 rfl rfl ?_
      obtain ⟨hb, h⟩ := h
      refine V_iald dX8_cost_29 (hS.n 76 rfl) (hS.k 76 9 rfl) (by rw [(hS.z 76 16 rfl)]; exact hb) ?_
      refine V_goto 34 dX8_cost_30 rfl ?_
      exact V_iret dX8_cost_34 rfl (by decide) (by decide) ⟨_, rfl, rfl, rfl, h⟩
