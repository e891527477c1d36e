def mL_law : MD := (RL, yL_law, cL_law, 7, (some .boolean), [])
def wL_c0 (X : QX) (K : Int32 → QS → QI → QJ → Nat → Nat → Prop) (post : Int32 → Prop) (x4 : Int32) (S : QS) (I : QI) (J : QJ) (k n : Nat) : Prop := (vp_in (x4 + 1) X.2.1.2.1 ∧ (k + 1 ≤ 601024 ∧ n + 6 ≤ 7293034 ∧ wL_table (X.2.1.2.2 ((x4 + 1)).toNatClampNeg) I J (fun r1 I2 J3 => (vp_in (x4 + 1) X.2.1.2.1 ∧ (wX8_table (X.2.1.2.2 ((x4 + 1)).toNatClampNeg) I2 (fun r5 I4 => (wX8_thrown I4 (fun r6 => ((r6 = r1 → ((¬ r1 = 0 → (∀ v7 : Int32, v7 = (x4 + 6) → (K v7 S I4 J3 (k + 1) (n + 6)))) ∧ (r1 = 0 → (vp_in 0 1 ∧ (((lg_cmp (J3 79 (0 : Int32).toNatClampNeg) ((r5).toInt64)) = 0 → (∀ v8 : Int32, v8 = (x4 + 6) → (K v8 S I4 J3 (k + 1) (n + 6)))) ∧ (¬ (lg_cmp (J3 79 (0 : Int32).toNatClampNeg) ((r5).toInt64)) = 0 → post 0)))))) ∧ (¬ r6 = r1 → post 0))))))))))
set_option maxRecDepth 100000 in
set_option maxHeartbeats 4000000 in
theorem swL_c0 {X : QX} {K : Int32 → QS → QI → QJ → Nat → Nat → Prop} {post : Int32 → Prop} (hK : ∀ (i : Int32) (S : QS) (I : QI) (J : QJ) (k n : Nat), Sa S → S.1 1000000 = X.2.1.1 → k ≤ 601024 → n ≤ 7293034 → K i S I J k n → V X mL_law 1000 601024 7293034 (fun o _ _ _ => ∃ r : Int32, o = .inl (some (.int r)) ∧ post r) 23 [(0, .ref 1000000), (1, .ref 0), (2, .ref 51), (3, .ref 79), (4, .int i)] [] S I J k n) {x4 : Int32} {S : QS} {I : QI} {J : QJ} {k n : Nat} (hA : Sa S) (hScr : S.1 1000000 = X.2.1.1) (hk : k ≤ 601024) (hn : n ≤ 7293034) (h : wL_c0 X K post x4 S I J k n) : V X mL_law 1000 601024 7293034 (fun o _ _ _ => ∃ r : Int32, o = .inl (some (.int r)) ∧ post r) 148 [(0, .ref 1000000), (1, .ref 0), (2, .ref 51), (3, .ref 79), (4, .int x4)] [] S I J k n := by
  have hS := hA.1
  replace h : (vp_in (x4 + 1) X.2.1.2.1 ∧ (k + 1 ≤ 601024 ∧ n + 6 ≤ 7293034 ∧ wL_table (X.2.1.2.2 ((x4 + 1)).toNatClampNeg) I J (fun r1 I2 J3 => (vp_in (x4 + 1) X.2.1.2.1 ∧ (wX8_table (X.2.1.2.2 ((x4 + 1)).toNatClampNeg) I2 (fun r5 I4 => (wX8_thrown I4 (fun r6 => ((r6 = r1 → ((¬ r1 = 0 → (∀ v7 : Int32, v7 = (x4 + 6) → (K v7 S I4 J3 (k + 1) (n + 6)))) ∧ (r1 = 0 → (vp_in 0 1 ∧ (((lg_cmp (J3 79 (0 : Int32).toNatClampNeg) ((r5).toInt64)) = 0 → (∀ v8 : Int32, v8 = (x4 + 6) → (K v8 S I4 J3 (k + 1) (n + 6)))) ∧ (¬ (lg_cmp (J3 79 (0 : Int32).toNatClampNeg) ((r5).toInt64)) = 0 → post 0)))))) ∧ (¬ r6 = r1 → post 0)))))))))) := h
  refine V_aload_n dL_law_148 rfl rfl ?_
  refine V_aload_n dL_law_149 rfl rfl ?_
  refine V_iload dL_law_150 rfl ?_
  refine V_iconst (v := 1) dL_law_152 (by decide) ?_
  refine V_iadd dL_law_153 ?_
  obtain ⟨hb, h⟩ := h
  refine V_sld dL_law_154 hScr hb ?_
  refine V_aload_n dL_law_155 rfl rfl ?_
  obtain ⟨hk9, hn9, h⟩ := h
  refine V_callSXi (st := []) [.ref 0, .int (X.2.1.2.2 ((x4 + 1)).toNatClampNeg), .ref 79] dL_law_156 ok_mL_table (by decide) ml_RL_94 st_mL_table (Nat.le_of_ble_eq_true rfl) (by decide) hk9 hn9 (s_mL_table hS h) (fun r1 I2 J3 h => ?_)
  clear hk hn
  have hk := hk9
  have hn := hn9
  refine V_istore (lo2 := [(5, .int r1), (0, .ref 1000000), (1, .ref 0), (2, .ref 51), (3, .ref 79), (4, .int x4)]) dL_law_159 (by decide) rfl ?_
  refine V_aload_n dL_law_161 rfl rfl ?_
  refine V_aload_n dL_law_162 rfl rfl ?_
  refine V_iload dL_law_163 rfl ?_
  refine V_iconst (v := 1) dL_law_165 (by decide) ?_
  refine V_iadd dL_law_166 ?_
  obtain ⟨hb, h⟩ := h
  refine V_sld dL_law_167 hScr hb ?_
  refine V_callVi (st := []) [.int (X.2.1.2.2 ((x4 + 1)).toNatClampNeg)] dL_law_168 ok_mX8_table rfl ml_RL_99 in_mX8_table se_mX8_table (hS.n 51 rfl) (hS.k 51 8 rfl) (by decide) rfl (Nat.le_of_ble_eq_true rfl) (by decide) hk hn (s_mX8_table hS h) (fun r5 I4 J9 h => ?_)
  obtain ⟨rfl, h⟩ := h
  refine V_istore (lo2 := [(6, .int r5), (5, .int r1), (0, .ref 1000000), (1, .ref 0), (2, .ref 51), (3, .ref 79), (4, .int x4)]) dL_law_171 (by decide) rfl ?_
  refine V_aload_n dL_law_173 rfl rfl ?_
  refine V_callVi (st := []) [] dL_law_174 ok_mX8_thrown rfl ml_RL_100 in_mX8_thrown se_mX8_thrown (hS.n 51 rfl) (hS.k 51 8 rfl) (by decide) rfl (Nat.le_of_ble_eq_true rfl) (by decide) hk hn (s_mX8_thrown hS h) (fun r6 I9 J9 h => ?_)
  obtain ⟨rfl, rfl, h⟩ := h
  refine V_iload dL_law_177 rfl ?_
  refine V_icmp_eq 184 dL_law_179 rfl (fun hc => ?_) (fun hc => ?_)
  · replace h := h.1 hc
    refine V_iload dL_law_184 rfl ?_
    refine V_if_ne 201 dL_law_186 rfl (fun hc => ?_) (fun hc => ?_)
    · replace h := h.1 hc
      refine V_goto 1779 dL_law_201 rfl ?_
      obtain ⟨v7, e_v7⟩ : ∃ z : Int32, z = (x4 + 6) := ⟨_, rfl⟩
      replace h := h v7 e_v7
      refine V_iinc (lo2 := [(4, .int v7), (6, .int r5), (5, .int r1), (0, .ref 1000000), (1, .ref 0), (2, .ref 51), (3, .ref 79)]) 6 dL_law_1779 rfl (v := v7) (by rw [e_v7]; first | done | rfl) (by decide) rfl ?_
      refine V_goto 23 dL_law_1782 rfl ?_
      refine V_sub (lo2 := [(0, .ref 1000000), (1, .ref 0), (2, .ref 51), (3, .ref 79), (4, .int v7)]) [3, 4, 5, 6, 0] rfl ?_
      exact hK _ _ _ _ _ _ hA hScr hk hn h
    · replace h := h.2 hc
      refine V_aload_n dL_law_189 rfl rfl ?_
      refine V_iconst (v := 0) dL_law_190 (by decide) ?_
      obtain ⟨hb, h⟩ := h
      refine V_lald dL_law_191 (hS.n 79 rfl) (hS.k 79 10 rfl) (by rw [(hS.z 79 1 rfl)]; exact hb) ?_
      refine V_iload dL_law_192 rfl ?_
      refine V_i2l dL_law_194 ?_
      refine V_lcmp dL_law_195 ?_
      refine V_if_eq 201 dL_law_196 rfl (fun hc => ?_) (fun hc => ?_)
      · replace h := h.1 hc
        refine V_goto 1779 dL_law_201 rfl ?_
        obtain ⟨v8, e_v8⟩ : ∃ z : Int32, z = (x4 + 6) := ⟨_, rfl⟩
        replace h := h v8 e_v8
        refine V_iinc (lo2 := [(4, .int v8), (6, .int r5), (5, .int r1), (0, .ref 1000000), (1, .ref 0), (2, .ref 51), (3, .ref 79)]) 6 dL_law_1779 rfl (v := v8) (by rw [e_v8]; first | done | rfl) (by decide) rfl ?_
        refine V_goto 23 dL_law_1782 rfl ?_
        refine V_sub (lo2 := [(0, .ref 1000000), (1, .ref 0), (2, .ref 51), (3, .ref 79), (4, .int v8)]) [3, 4, 5, 6, 0] rfl ?_
        exact hK _ _ _ _ _ _ hA hScr hk hn h
      · replace h := h.2 hc
        refine V_iconst (v := 0) dL_law_199 (by decide) ?_
        exact V_zret dL_law_200 rfl (by decide) hk hn ⟨_, rfl, h⟩
  · replace h := h.2 hc
    refine V_iconst (v := 0) dL_law_182 (by decide) ?_
    exact V_zret dL_law_183 rfl (by decide) hk hn ⟨_, rfl, h⟩
def wL_c1 (X : QX) (K : Int32 → QS → QI → QJ → Nat → Nat → Prop) (post : Int32 → Prop) (x4 : Int32) (S : QS) (I : QI) (J : QJ) (k n : Nat) : Prop := (vp_in (x4 + 1) X.2.1.2.1 ∧ (vp_in (x4 + 2) X.2.1.2.1 ∧ (vp_in (x4 + 3) X.2.1.2.1 ∧ (vp_in (x4 + 4) X.2.1.2.1 ∧ (k + 1 ≤ 601024 ∧ n + 6 ≤ 7293034 ∧ wL_add (X.2.1.2.2 ((x4 + 1)).toNatClampNeg) (X.2.1.2.2 ((x4 + 2)).toNatClampNeg) (X.2.1.2.2 ((x4 + 3)).toNatClampNeg) (X.2.1.2.2 ((x4 + 4)).toNatClampNeg) I J (fun r1 I2 J3 => (vp_in (x4 + 1) X.2.1.2.1 ∧ (vp_in (x4 + 2) X.2.1.2.1 ∧ (vp_in (x4 + 3) X.2.1.2.1 ∧ (vp_in (x4 + 4) X.2.1.2.1 ∧ (wX8_add (X.2.1.2.2 ((x4 + 1)).toNatClampNeg) (X.2.1.2.2 ((x4 + 2)).toNatClampNeg) (X.2.1.2.2 ((x4 + 3)).toNatClampNeg) (X.2.1.2.2 ((x4 + 4)).toNatClampNeg) I2 (fun r5 I4 => (wX8_thrown I4 (fun r6 => ((r6 = r1 → ((¬ r1 = 0 → (∀ v7 : Int32, v7 = (x4 + 6) → (K v7 S I4 J3 (k + 1) (n + 6)))) ∧ (r1 = 0 → (vp_in 0 1 ∧ (((lg_cmp (J3 79 (0 : Int32).toNatClampNeg) ((r5).toInt64)) = 0 → (∀ v8 : Int32, v8 = (x4 + 6) → (K v8 S I4 J3 (k + 1) (n + 6)))) ∧ (¬ (lg_cmp (J3 79 (0 : Int32).toNatClampNeg) ((r5).toInt64)) = 0 → post 0)))))) ∧ (¬ r6 = r1 → post 0))))))))))))))))
set_option maxRecDepth 100000 in
set_option maxHeartbeats 4000000 in
theorem swL_c1 {X : QX} {K : Int32 → QS → QI → QJ → Nat → Nat → Prop} {post : Int32 → Prop} (hK : ∀ (i : Int32) (S : QS) (I : QI) (J : QJ) (k n : Nat), Sa S → S.1 1000000 = X.2.1.1 → k ≤ 601024 → n ≤ 7293034 → K i S I J k n → V X mL_law 1000 601024 7293034 (fun o _ _ _ => ∃ r : Int32, o = .inl (some (.int r)) ∧ post r) 23 [(0, .ref 1000000), (1, .ref 0), (2, .ref 51), (3, .ref 79), (4, .int i)] [] S I J k n) {x4 : Int32} {S : QS} {I : QI} {J : QJ} {k n : Nat} (hA : Sa S) (hScr : S.1 1000000 = X.2.1.1) (hk : k ≤ 601024) (hn : n ≤ 7293034) (h : wL_c1 X K post x4 S I J k n) : V X mL_law 1000 601024 7293034 (fun o _ _ _ => ∃ r : Int32, o = .inl (some (.int r)) ∧ post r) 204 [(0, .ref 1000000), (1, .ref 0), (2, .ref 51), (3, .ref 79), (4, .int x4)] [] S I J k n := by
  have hS := hA.1
  replace h : (vp_in (x4 + 1) X.2.1.2.1 ∧ (vp_in (x4 + 2) X.2.1.2.1 ∧ (vp_in (x4 + 3) X.2.1.2.1 ∧ (vp_in (x4 + 4) X.2.1.2.1 ∧ (k + 1 ≤ 601024 ∧ n + 6 ≤ 7293034 ∧ wL_add (X.2.1.2.2 ((x4 + 1)).toNatClampNeg) (X.2.1.2.2 ((x4 + 2)).toNatClampNeg) (X.2.1.2.2 ((x4 + 3)).toNatClampNeg) (X.2.1.2.2 ((x4 + 4)).toNatClampNeg) I J (fun r1 I2 J3 => (vp_in (x4 + 1) X.2.1.2.1 ∧ (vp_in (x4 + 2) X.2.1.2.1 ∧ (vp_in (x4 + 3) X.2.1.2.1 ∧ (vp_in (x4 + 4) X.2.1.2.1 ∧ (wX8_add (X.2.1.2.2 ((x4 + 1)).toNatClampNeg) (X.2.1.2.2 ((x4 + 2)).toNatClampNeg) (X.2.1.2.2 ((x4 + 3)).toNatClampNeg) (X.2.1.2.2 ((x4 + 4)).toNatClampNeg) I2 (fun r5 I4 => (wX8_thrown I4 (fun r6 => ((r6 = r1 → ((¬ r1 = 0 → (∀ v7 : Int32, v7 = (x4 + 6) → (K v7 S I4 J3 (k + 1) (n + 6)))) ∧ (r1 = 0 → (vp_in 0 1 ∧ (((lg_cmp (J3 79 (0 : Int32).toNatClampNeg) ((r5).toInt64)) = 0 → (∀ v8 : Int32, v8 = (x4 + 6) → (K v8 S I4 J3 (k + 1) (n + 6)))) ∧ (¬ (lg_cmp (J3 79 (0 : Int32).toNatClampNeg) ((r5).toInt64)) = 0 → post 0)))))) ∧ (¬ r6 = r1 → post 0)))))))))))))))) := h
  refine V_aload_n dL_law_204 rfl rfl ?_
  refine V_aload_n dL_law_205 rfl rfl ?_
  refine V_iload dL_law_206 rfl ?_
  refine V_iconst (v := 1) dL_law_208 (by decide) ?_
  refine V_iadd dL_law_209 ?_
  obtain ⟨hb, h⟩ := h
  refine V_sld dL_law_210 hScr hb ?_
  refine V_aload_n dL_law_211 rfl rfl ?_
  refine V_iload dL_law_212 rfl ?_
  refine V_iconst (v := 2) dL_law_214 (by decide) ?_
  refine V_iadd dL_law_215 ?_
  obtain ⟨hb, h⟩ := h
  refine V_sld dL_law_216 hScr hb ?_
  refine V_aload_n dL_law_217 rfl rfl ?_
  refine V_iload dL_law_218 rfl ?_
  refine V_iconst (v := 3) dL_law_220 (by decide) ?_
  refine V_iadd dL_law_221 ?_
  obtain ⟨hb, h⟩ := h
  refine V_sld dL_law_222 hScr hb ?_
  refine V_aload_n dL_law_223 rfl rfl ?_
  refine V_iload dL_law_224 rfl ?_
  refine V_iconst (v := 4) dL_law_226 (by decide) ?_
  refine V_iadd dL_law_227 ?_
  obtain ⟨hb, h⟩ := h
  refine V_sld dL_law_228 hScr hb ?_
  refine V_aload_n dL_law_229 rfl rfl ?_
  obtain ⟨hk9, hn9, h⟩ := h
  refine V_callSXi (st := []) [.ref 0, .int (X.2.1.2.2 ((x4 + 1)).toNatClampNeg), .int (X.2.1.2.2 ((x4 + 2)).toNatClampNeg), .int (X.2.1.2.2 ((x4 + 3)).toNatClampNeg), .int (X.2.1.2.2 ((x4 + 4)).toNatClampNeg), .ref 79] dL_law_230 ok_mL_add (by decide) ml_RL_104 st_mL_add (Nat.le_of_ble_eq_true rfl) (by decide) hk9 hn9 (s_mL_add hS h) (fun r1 I2 J3 h => ?_)
  clear hk hn
  have hk := hk9
  have hn := hn9
  refine V_istore (lo2 := [(5, .int r1), (0, .ref 1000000), (1, .ref 0), (2, .ref 51), (3, .ref 79), (4, .int x4)]) dL_law_233 (by decide) rfl ?_
  refine V_aload_n dL_law_235 rfl rfl ?_
  refine V_aload_n dL_law_236 rfl rfl ?_
  refine V_iload dL_law_237 rfl ?_
  refine V_iconst (v := 1) dL_law_239 (by decide) ?_
  refine V_iadd dL_law_240 ?_
  obtain ⟨hb, h⟩ := h
  refine V_sld dL_law_241 hScr hb ?_
  refine V_aload_n dL_law_242 rfl rfl ?_
  refine V_iload dL_law_243 rfl ?_
  refine V_iconst (v := 2) dL_law_245 (by decide) ?_
  refine V_iadd dL_law_246 ?_
  obtain ⟨hb, h⟩ := h
  refine V_sld dL_law_247 hScr hb ?_
  refine V_aload_n dL_law_248 rfl rfl ?_
  refine V_iload dL_law_249 rfl ?_
  refine V_iconst (v := 3) dL_law_251 (by decide) ?_
  refine V_iadd dL_law_252 ?_
  obtain ⟨hb, h⟩ := h
  refine V_sld dL_law_253 hScr hb ?_
  refine V_aload_n dL_law_254 rfl rfl ?_
  refine V_iload dL_law_255 rfl ?_
  refine V_iconst (v := 4) dL_law_257 (by decide) ?_
  refine V_iadd dL_law_258 ?_
  obtain ⟨hb, h⟩ := h
  refine V_sld dL_law_259 hScr hb ?_
  refine V_callVi (st := []) [.int (X.2.1.2.2 ((x4 + 1)).toNatClampNeg), .int (X.2.1.2.2 ((x4 + 2)).toNatClampNeg), .int (X.2.1.2.2 ((x4 + 3)).toNatClampNeg), .int (X.2.1.2.2 ((x4 + 4)).toNatClampNeg)] dL_law_260 ok_mX8_add rfl ml_RL_107 in_mX8_add se_mX8_add (hS.n 51 rfl) (hS.k 51 8 rfl) (by decide) rfl (Nat.le_of_ble_eq_true rfl) (by decide) hk hn (s_mX8_add hS h) (fun r5 I4 J9 h => ?_)
  obtain ⟨rfl, h⟩ := h
  refine V_istore (lo2 := [(6, .int r5), (5, .int r1), (0, .ref 1000000), (1, .ref 0), (2, .ref 51), (3, .ref 79), (4, .int x4)]) dL_law_263 (by decide) rfl ?_
  refine V_aload_n dL_law_265 rfl rfl ?_
  refine V_callVi (st := []) [] dL_law_266 ok_mX8_thrown rfl ml_RL_100 in_mX8_thrown se_mX8_thrown (hS.n 51 rfl) (hS.k 51 8 rfl) (by decide) rfl (Nat.le_of_ble_eq_true rfl) (by decide) hk hn (s_mX8_thrown hS h) (fun r6 I9 J9 h => ?_)
  obtain ⟨rfl, rfl, h⟩ := h
  refine V_iload dL_law_269 rfl ?_
  refine V_icmp_eq 276 dL_law_271 rfl (fun hc => ?_) (fun hc => ?_)
  · replace h := h.1 hc
    refine V_iload dL_law_276 rfl ?_
    refine V_if_ne 293 dL_law_278 rfl (fun hc => ?_) (fun hc => ?_)
    · replace h := h.1 hc
      refine V_goto 1779 dL_law_293 rfl ?_
      obtain ⟨v7, e_v7⟩ : ∃ z : Int32, z = (x4 + 6) := ⟨_, rfl⟩
      replace h := h v7 e_v7
      refine V_iinc (lo2 := [(4, .int v7), (6, .int r5), (5, .int r1), (0, .ref 1000000), (1, .ref 0), (2, .ref 51), (3, .ref 79)]) 6 dL_law_1779 rfl (v := v7) (by rw [e_v7]; first | done | rfl) (by decide) rfl ?_
      refine V_goto 23 dL_law_1782 rfl ?_
      refine V_sub (lo2 := [(0, .ref 1000000), (1, .ref 0), (2, .ref 51), (3, .ref 79), (4, .int v7)]) [3, 4, 5, 6, 0] rfl ?_
      exact hK _ _ _ _ _ _ hA hScr hk hn h
    · replace h := h.2 hc
      refine V_aload_n dL_law_281 rfl rfl ?_
      refine V_iconst (v := 0) dL_law_282 (by decide) ?_
      obtain ⟨hb, h⟩ := h
      refine V_lald dL_law_283 (hS.n 79 rfl) (hS.k 79 10 rfl) (by rw [(hS.z 79 1 rfl)]; exact hb) ?_
      refine V_iload dL_law_284 rfl ?_
      refine V_i2l dL_law_286 ?_
      refine V_lcmp dL_law_287 ?_
      refine V_if_eq 293 dL_law_288 rfl (fun hc => ?_) (fun hc => ?_)
      · replace h := h.1 hc
        refine V_goto 1779 dL_law_293 rfl ?_
        obtain ⟨v8, e_v8⟩ : ∃ z : Int32, z = (x4 + 6) := ⟨_, rfl⟩
        replace h := h v8 e_v8
        refine V_iinc (lo2 := [(4, .int v8), (6, .int r5), (5, .int r1), (0, .ref 1000000), (1, .ref 0), (2, .ref 51), (3, .ref 79)]) 6 dL_law_1779 rfl (v := v8) (by rw [e_v8]; first | done | rfl) (by decide) rfl ?_
        refine V_goto 23 dL_law_1782 rfl ?_
        refine V_sub (lo2 := [(0, .ref 1000000), (1, .ref 0), (2, .ref 51), (3, .ref 79), (4, .int v8)]) [3, 4, 5, 6, 0] rfl ?_
        exact hK _ _ _ _ _ _ hA hScr hk hn h
      · replace h := h.2 hc
        refine V_iconst (v := 0) dL_law_291 (by decide) ?_
        exact V_zret dL_law_292 rfl (by decide) hk hn ⟨_, rfl, h⟩
  · replace h := h.2 hc
    refine V_iconst (v := 0) dL_law_274 (by decide) ?_
    exact V_zret dL_law_275 rfl (by decide) hk hn ⟨_, rfl, h⟩
def wL_c2 (X : QX) (K : Int32 → QS → QI → QJ → Nat → Nat → Prop) (post : Int32 → Prop) (x4 : Int32) (S : QS) (I : QI) (J : QJ) (k n : Nat) : Prop := (vp_in (x4 + 1) X.2.1.2.1 ∧ (vp_in (x4 + 2) X.2.1.2.1 ∧ (k + 1 ≤ 601024 ∧ n + 6 ≤ 7293034 ∧ wL_take (X.2.1.2.2 ((x4 + 1)).toNatClampNeg) (X.2.1.2.2 ((x4 + 2)).toNatClampNeg) I J (fun r1 I2 J3 => (vp_in (x4 + 1) X.2.1.2.1 ∧ (vp_in (x4 + 2) X.2.1.2.1 ∧ (wX8_take (X.2.1.2.2 ((x4 + 1)).toNatClampNeg) (X.2.1.2.2 ((x4 + 2)).toNatClampNeg) I2 (fun r5 I4 => (wX8_thrown I4 (fun r6 => ((r6 = r1 → ((¬ r1 = 0 → (∀ v7 : Int32, v7 = (x4 + 6) → (K v7 S I4 J3 (k + 1) (n + 6)))) ∧ (r1 = 0 → (vp_in 0 1 ∧ (((lg_cmp (J3 79 (0 : Int32).toNatClampNeg) ((r5).toInt64)) = 0 → (∀ v8 : Int32, v8 = (x4 + 6) → (K v8 S I4 J3 (k + 1) (n + 6)))) ∧ (¬ (lg_cmp (J3 79 (0 : Int32).toNatClampNeg) ((r5).toInt64)) = 0 → post 0)))))) ∧ (¬ r6 = r1 → post 0))))))))))))
set_option maxRecDepth 100000 in
set_option maxHeartbeats 4000000 in
theorem swL_c2 {X : QX} {K : Int32 → QS → QI → QJ → Nat → Nat → Prop} {post : Int32 → Prop} (hK : ∀ (i : Int32) (S : QS) (I : QI) (J : QJ) (k n : Nat), Sa S → S.1 1000000 = X.2.1.1 → k ≤ 601024 → n ≤ 7293034 → K i S I J k n → V X mL_law 1000 601024 7293034 (fun o _ _ _ => ∃ r : Int32, o = .inl (some (.int r)) ∧ post r) 23 [(0, .ref 1000000), (1, .ref 0), (2, .ref 51), (3, .ref 79), (4, .int i)] [] S I J k n) {x4 : Int32} {S : QS} {I : QI} {J : QJ} {k n : Nat} (hA : Sa S) (hScr : S.1 1000000 = X.2.1.1) (hk : k ≤ 601024) (hn : n ≤ 7293034) (h : wL_c2 X K post x4 S I J k n) : V X mL_law 1000 601024 7293034 (fun o _ _ _ => ∃ r : Int32, o = .inl (some (.int r)) ∧ post r) 296 [(0, .ref 1000000), (1, .ref 0), (2, .ref 51), (3, .ref 79), (4, .int x4)] [] S I J k n := by
  have hS := hA.1
  replace h : (vp_in (x4 + 1) X.2.1.2.1 ∧ (vp_in (x4 + 2) X.2.1.2.1 ∧ (k + 1 ≤ 601024 ∧ n + 6 ≤ 7293034 ∧ wL_take (X.2.1.2.2 ((x4 + 1)).toNatClampNeg) (X.2.1.2.2 ((x4 + 2)).toNatClampNeg) I J (fun r1 I2 J3 => (vp_in (x4 + 1) X.2.1.2.1 ∧ (vp_in (x4 + 2) X.2.1.2.1 ∧ (wX8_take (X.2.1.2.2 ((x4 + 1)).toNatClampNeg) (X.2.1.2.2 ((x4 + 2)).toNatClampNeg) I2 (fun r5 I4 => (wX8_thrown I4 (fun r6 => ((r6 = r1 → ((¬ r1 = 0 → (∀ v7 : Int32, v7 = (x4 + 6) → (K v7 S I4 J3 (k + 1) (n + 6)))) ∧ (r1 = 0 → (vp_in 0 1 ∧ (((lg_cmp (J3 79 (0 : Int32).toNatClampNeg) ((r5).toInt64)) = 0 → (∀ v8 : Int32, v8 = (x4 + 6) → (K v8 S I4 J3 (k + 1) (n + 6)))) ∧ (¬ (lg_cmp (J3 79 (0 : Int32).toNatClampNeg) ((r5).toInt64)) = 0 → post 0)))))) ∧ (¬ r6 = r1 → post 0)))))))))))) := h
  refine V_aload_n dL_law_296 rfl rfl ?_
  refine V_aload_n dL_law_297 rfl rfl ?_
  refine V_iload dL_law_298 rfl ?_
  refine V_iconst (v := 1) dL_law_300 (by decide) ?_
  refine V_iadd dL_law_301 ?_
  obtain ⟨hb, h⟩ := h
  refine V_sld dL_law_302 hScr hb ?_
  refine V_aload_n dL_law_303 rfl rfl ?_
  refine V_iload dL_law_304 rfl ?_
  refine V_iconst (v := 2) dL_law_306 (by decide) ?_
  refine V_iadd dL_law_307 ?_
  obtain ⟨hb, h⟩ := h
  refine V_sld dL_law_308 hScr hb ?_
  refine V_aload_n dL_law_309 rfl rfl ?_
  obtain ⟨hk9, hn9, h⟩ := h
  refine V_callSXi (st := []) [.ref 0, .int (X.2.1.2.2 ((x4 + 1)).toNatClampNeg), .int (X.2.1.2.2 ((x4 + 2)).toNatClampNeg), .ref 79] dL_law_310 ok_mL_take (by decide) ml_RL_108 st_mL_take (Nat.le_of_ble_eq_true rfl) (by decide) hk9 hn9 (s_mL_take hS h) (fun r1 I2 J3 h => ?_)
  clear hk hn
  have hk := hk9
  have hn := hn9
  refine V_istore (lo2 := [(5, .int r1), (0, .ref 1000000), (1, .ref 0), (2, .ref 51), (3, .ref 79), (4, .int x4)]) dL_law_313 (by decide) rfl ?_
  refine V_aload_n dL_law_315 rfl rfl ?_
  refine V_aload_n dL_law_316 rfl rfl ?_
  refine V_iload dL_law_317 rfl ?_
  refine V_iconst (v := 1) dL_law_319 (by decide) ?_
  refine V_iadd dL_law_320 ?_
  obtain ⟨hb, h⟩ := h
  refine V_sld dL_law_321 hScr hb ?_
  refine V_aload_n dL_law_322 rfl rfl ?_
  refine V_iload dL_law_323 rfl ?_
  refine V_iconst (v := 2) dL_law_325 (by decide) ?_
  refine V_iadd dL_law_326 ?_
  obtain ⟨hb, h⟩ := h
  refine V_sld dL_law_327 hScr hb ?_
  refine V_callVi (st := []) [.int (X.2.1.2.2 ((x4 + 1)).toNatClampNeg), .int (X.2.1.2.2 ((x4 + 2)).toNatClampNeg)] dL_law_328 ok_mX8_take rfl ml_RL_111 in_mX8_take se_mX8_take (hS.n 51 rfl) (hS.k 51 8 rfl) (by decide) rfl (Nat.le_of_ble_eq_true rfl) (by decide) hk hn (s_mX8_take hS h) (fun r5 I4 J9 h => ?_)
  obtain ⟨rfl, h⟩ := h
  refine V_istore (lo2 := [(6, .int r5), (5, .int r1), (0, .ref 1000000), (1, .ref 0), (2, .ref 51), (3, .ref 79), (4, .int x4)]) dL_law_331 (by decide) rfl ?_
  refine V_aload_n dL_law_333 rfl rfl ?_
  refine V_callVi (st := []) [] dL_law_334 ok_mX8_thrown rfl ml_RL_100 in_mX8_thrown se_mX8_thrown (hS.n 51 rfl) (hS.k 51 8 rfl) (by decide) rfl (Nat.le_of_ble_eq_true rfl) (by decide) hk hn (s_mX8_thrown hS h) (fun r6 I9 J9 h => ?_)
  obtain ⟨rfl, rfl, h⟩ := h
  refine V_iload dL_law_337 rfl ?_
  refine V_icmp_eq 344 dL_law_339 rfl (fun hc => ?_) (fun hc => ?_)
  · replace h := h.1 hc
    refine V_iload dL_law_344 rfl ?_
    refine V_if_ne 361 dL_law_346 rfl (fun hc => ?_) (fun hc => ?_)
    · replace h := h.1 hc
      refine V_goto 1779 dL_law_361 rfl ?_
      obtain ⟨v7, e_v7⟩ : ∃ z : Int32, z = (x4 + 6) := ⟨_, rfl⟩
      replace h := h v7 e_v7
      refine V_iinc (lo2 := [(4, .int v7), (6, .int r5), (5, .int r1), (0, .ref 1000000), (1, .ref 0), (2, .ref 51), (3, .ref 79)]) 6 dL_law_1779 rfl (v := v7) (by rw [e_v7]; first | done | rfl) (by decide) rfl ?_
      refine V_goto 23 dL_law_1782 rfl ?_
      refine V_sub (lo2 := [(0, .ref 1000000), (1, .ref 0), (2, .ref 51), (3, .ref 79), (4, .int v7)]) [3, 4, 5, 6, 0] rfl ?_
      exact hK _ _ _ _ _ _ hA hScr hk hn h
    · replace h := h.2 hc
      refine V_aload_n dL_law_349 rfl rfl ?_
      refine V_iconst (v := 0) dL_law_350 (by decide) ?_
      obtain ⟨hb, h⟩ := h
      refine V_lald dL_law_351 (hS.n 79 rfl) (hS.k 79 10 rfl) (by rw [(hS.z 79 1 rfl)]; exact hb) ?_
      refine V_iload dL_law_352 rfl ?_
      refine V_i2l dL_law_354 ?_
      refine V_lcmp dL_law_355 ?_
      refine V_if_eq 361 dL_law_356 rfl (fun hc => ?_) (fun hc => ?_)
      · replace h := h.1 hc
        refine V_goto 1779 dL_law_361 rfl ?_
        obtain ⟨v8, e_v8⟩ : ∃ z : Int32, z = (x4 + 6) := ⟨_, rfl⟩
        replace h := h v8 e_v8
        refine V_iinc (lo2 := [(4, .int v8), (6, .int r5), (5, .int r1), (0, .ref 1000000), (1, .ref 0), (2, .ref 51), (3, .ref 79)]) 6 dL_law_1779 rfl (v := v8) (by rw [e_v8]; first | done | rfl) (by decide) rfl ?_
        refine V_goto 23 dL_law_1782 rfl ?_
        refine V_sub (lo2 := [(0, .ref 1000000), (1, .ref 0), (2, .ref 51), (3, .ref 79), (4, .int v8)]) [3, 4, 5, 6, 0] rfl ?_
        exact hK _ _ _ _ _ _ hA hScr hk hn h
      · replace h := h.2 hc
        refine V_iconst (v := 0) dL_law_359 (by decide) ?_
        exact V_zret dL_law_360 rfl (by decide) hk hn ⟨_, rfl, h⟩
  · replace h := h.2 hc
    refine V_iconst (v := 0) dL_law_342 (by decide) ?_
    exact V_zret dL_law_343 rfl (by decide) hk hn ⟨_, rfl, h⟩
def wL_c3 (X : QX) (K : Int32 → QS → QI → QJ → Nat → Nat → Prop) (post : Int32 → Prop) (x4 : Int32) (S : QS) (I : QI) (J : QJ) (k n : Nat) : Prop := (vp_in (x4 + 1) X.2.1.2.1 ∧ (k + 1 ≤ 601024 ∧ n + 6 ≤ 7293034 ∧ wL_scan (X.2.1.2.2 ((x4 + 1)).toNatClampNeg) I J (fun r1 I2 J3 => (vp_in (x4 + 1) X.2.1.2.1 ∧ (wX8_scan (X.2.1.2.2 ((x4 + 1)).toNatClampNeg) I2 (fun r5 I4 => (wX8_thrown I4 (fun r6 => ((r6 = r1 → ((¬ r1 = 0 → (∀ v7 : Int32, v7 = (x4 + 6) → (K v7 S I4 J3 (k + 1) (n + 6)))) ∧ (r1 = 0 → (vp_in 0 1 ∧ (((lg_cmp (J3 79 (0 : Int32).toNatClampNeg) ((r5).toInt64)) = 0 → (∀ v8 : Int32, v8 = (x4 + 6) → (K v8 S I4 J3 (k + 1) (n + 6)))) ∧ (¬ (lg_cmp (J3 79 (0 : Int32).toNatClampNeg) ((r5).toInt64)) = 0 → post 0)))))) ∧ (¬ r6 = r1 → post 0))))))))))
set_option maxRecDepth 100000 in
set_option maxHeartbeats 4000000 in
theorem swL_c3 {X : QX} {K : Int32 → QS → QI → QJ → Nat → Nat → Prop} {post : Int32 → Prop} (hK : ∀ (i : Int32) (S : QS) (I : QI) (J : QJ) (k n : Nat), Sa S → S.1 1000000 = X.2.1.1 → k ≤ 601024 → n ≤ 7293034 → K i S I J k n → V X mL_law 1000 601024 7293034 (fun o _ _ _ => ∃ r : Int32, o = .inl (some (.int r)) ∧ post r) 23 [(0, .ref 1000000), (1, .ref 0), (2, .ref 51), (3, .ref 79), (4, .int i)] [] S I J k n) {x4 : Int32} {S : QS} {I : QI} {J : QJ} {k n : Nat} (hA : Sa S) (hScr : S.1 1000000 = X.2.1.1) (hk : k ≤ 601024) (hn : n ≤ 7293034) (h : wL_c3 X K post x4 S I J k n) : V X mL_law 1000 601024 7293034 (fun o _ _ _ => ∃ r : Int32, o = .inl (some (.int r)) ∧ post r) 364 [(0, .ref 1000000), (1, .ref 0), (2, .ref 51), (3, .ref 79), (4, .int x4)] [] S I J k n := by
  have hS := hA.1
  replace h : (vp_in (x4 + 1) X.2.1.2.1 ∧ (k + 1 ≤ 601024 ∧ n + 6 ≤ 7293034 ∧ wL_scan (X.2.1.2.2 ((x4 + 1)).toNatClampNeg) I J (fun r1 I2 J3 => (vp_in (x4 + 1) X.2.1.2.1 ∧ (wX8_scan (X.2.1.2.2 ((x4 + 1)).toNatClampNeg) I2 (fun r5 I4 => (wX8_thrown I4 (fun r6 => ((r6 = r1 → ((¬ r1 = 0 → (∀ v7 : Int32, v7 = (x4 + 6) → (K v7 S I4 J3 (k + 1) (n + 6)))) ∧ (r1 = 0 → (vp_in 0 1 ∧ (((lg_cmp (J3 79 (0 : Int32).toNatClampNeg) ((r5).toInt64)) = 0 → (∀ v8 : Int32, v8 = (x4 + 6) → (K v8 S I4 J3 (k + 1) (n + 6)))) ∧ (¬ (lg_cmp (J3 79 (0 : Int32).toNatClampNeg) ((r5).toInt64)) = 0 → post 0)))))) ∧ (¬ r6 = r1 → post 0)))))))))) := h
  refine V_aload_n dL_law_364 rfl rfl ?_
  refine V_aload_n dL_law_365 rfl rfl ?_
  refine V_iload dL_law_366 rfl ?_
  refine V_iconst (v := 1) dL_law_368 (by decide) ?_
  refine V_iadd dL_law_369 ?_
  obtain ⟨hb, h⟩ := h
  refine V_sld dL_law_370 hScr hb ?_
  refine V_aload_n dL_law_371 rfl rfl ?_
  obtain ⟨hk9, hn9, h⟩ := h
  refine V_callSXi (st := []) [.ref 0, .int (X.2.1.2.2 ((x4 + 1)).toNatClampNeg), .ref 79] dL_law_372 ok_mL_scan (by decide) ml_RL_112 st_mL_scan (Nat.le_of_ble_eq_true rfl) (by decide) hk9 hn9 (s_mL_scan hS h) (fun r1 I2 J3 h => ?_)
  clear hk hn
  have hk := hk9
  have hn := hn9
  refine V_istore (lo2 := [(5, .int r1), (0, .ref 1000000), (1, .ref 0), (2, .ref 51), (3, .ref 79), (4, .int x4)]) dL_law_375 (by decide) rfl ?_
  refine V_aload_n dL_law_377 rfl rfl ?_
  refine V_aload_n dL_law_378 rfl rfl ?_
  refine V_iload dL_law_379 rfl ?_
  refine V_iconst (v := 1) dL_law_381 (by decide) ?_
  refine V_iadd dL_law_382 ?_
  obtain ⟨hb, h⟩ := h
  refine V_sld dL_law_383 hScr hb ?_
  refine V_callVi (st := []) [.int (X.2.1.2.2 ((x4 + 1)).toNatClampNeg)] dL_law_384 ok_mX8_scan rfl ml_RL_114 in_mX8_scan se_mX8_scan (hS.n 51 rfl) (hS.k 51 8 rfl) (by decide) rfl (Nat.le_of_ble_eq_true rfl) (by decide) hk hn (s_mX8_scan hS h) (fun r5 I4 J9 h => ?_)
  obtain ⟨rfl, h⟩ := h
  refine V_istore (lo2 := [(6, .int r5), (5, .int r1), (0, .ref 1000000), (1, .ref 0), (2, .ref 51), (3, .ref 79), (4, .int x4)]) dL_law_387 (by decide) rfl ?_
  refine V_aload_n dL_law_389 rfl rfl ?_
  refine V_callVi (st := []) [] dL_law_390 ok_mX8_thrown rfl ml_RL_100 in_mX8_thrown se_mX8_thrown (hS.n 51 rfl) (hS.k 51 8 rfl) (by decide) rfl (Nat.le_of_ble_eq_true rfl) (by decide) hk hn (s_mX8_thrown hS h) (fun r6 I9 J9 h => ?_)
  obtain ⟨rfl, rfl, h⟩ := h
  refine V_iload dL_law_393 rfl ?_
  refine V_icmp_eq 400 dL_law_395 rfl (fun hc => ?_) (fun hc => ?_)
  · replace h := h.1 hc
    refine V_iload dL_law_400 rfl ?_
    refine V_if_ne 417 dL_law_402 rfl (fun hc => ?_) (fun hc => ?_)
    · replace h := h.1 hc
      refine V_goto 1779 dL_law_417 rfl ?_
      obtain ⟨v7, e_v7⟩ : ∃ z : Int32, z = (x4 + 6) := ⟨_, rfl⟩
      replace h := h v7 e_v7
      refine V_iinc (lo2 := [(4, .int v7), (6, .int r5), (5, .int r1), (0, .ref 1000000), (1, .ref 0), (2, .ref 51), (3, .ref 79)]) 6 dL_law_1779 rfl (v := v7) (by rw [e_v7]; first | done | rfl) (by decide) rfl ?_
      refine V_goto 23 dL_law_1782 rfl ?_
      refine V_sub (lo2 := [(0, .ref 1000000), (1, .ref 0), (2, .ref 51), (3, .ref 79), (4, .int v7)]) [3, 4, 5, 6, 0] rfl ?_
      exact hK _ _ _ _ _ _ hA hScr hk hn h
    · replace h := h.2 hc
      refine V_aload_n dL_law_405 rfl rfl ?_
      refine V_iconst (v := 0) dL_law_406 (by decide) ?_
      obtain ⟨hb, h⟩ := h
      refine V_lald dL_law_407 (hS.n 79 rfl) (hS.k 79 10 rfl) (by rw [(hS.z 79 1 rfl)]; exact hb) ?_
      refine V_iload dL_law_408 rfl ?_
      refine V_i2l dL_law_410 ?_
      refine V_lcmp dL_law_411 ?_
      refine V_if_eq 417 dL_law_412 rfl (fun hc => ?_) (fun hc => ?_)
      · replace h := h.1 hc
        refine V_goto 1779 dL_law_417 rfl ?_
        obtain ⟨v8, e_v8⟩ : ∃ z : Int32, z = (x4 + 6) := ⟨_, rfl⟩
        replace h := h v8 e_v8
        refine V_iinc (lo2 := [(4, .int v8), (6, .int r5), (5, .int r1), (0, .ref 1000000), (1, .ref 0), (2, .ref 51), (3, .ref 79)]) 6 dL_law_1779 rfl (v := v8) (by rw [e_v8]; first | done | rfl) (by decide) rfl ?_
        refine V_goto 23 dL_law_1782 rfl ?_
        refine V_sub (lo2 := [(0, .ref 1000000), (1, .ref 0), (2, .ref 51), (3, .ref 79), (4, .int v8)]) [3, 4, 5, 6, 0] rfl ?_
        exact hK _ _ _ _ _ _ hA hScr hk hn h
      · replace h := h.2 hc
        refine V_iconst (v := 0) dL_law_415 (by decide) ?_
        exact V_zret dL_law_416 rfl (by decide) hk hn ⟨_, rfl, h⟩
  · replace h := h.2 hc
    refine V_iconst (v := 0) dL_law_398 (by decide) ?_
    exact V_zret dL_law_399 rfl (by decide) hk hn ⟨_, rfl, h⟩
def wL_c4 (X : QX) (K : Int32 → QS → QI → QJ → Nat → Nat → Prop) (post : Int32 → Prop) (x4 : Int32) (S : QS) (I : QI) (J : QJ) (k n : Nat) : Prop := (vp_in (x4 + 1) X.2.1.2.1 ∧ (vp_in (x4 + 2) X.2.1.2.1 ∧ (vp_in (x4 + 3) X.2.1.2.1 ∧ (vp_in (x4 + 4) X.2.1.2.1 ∧ (k + 1 ≤ 601024 ∧ n + 6 ≤ 7293034 ∧ wL_filter (X.2.1.2.2 ((x4 + 1)).toNatClampNeg) (X.2.1.2.2 ((x4 + 2)).toNatClampNeg) (X.2.1.2.2 ((x4 + 3)).toNatClampNeg) (X.2.1.2.2 ((x4 + 4)).toNatClampNeg) I J (fun r1 I2 J3 => (vp_in (x4 + 1) X.2.1.2.1 ∧ (vp_in (x4 + 2) X.2.1.2.1 ∧ (vp_in (x4 + 3) X.2.1.2.1 ∧ (vp_in (x4 + 4) X.2.1.2.1 ∧ (wX8_filter (X.2.1.2.2 ((x4 + 1)).toNatClampNeg) (X.2.1.2.2 ((x4 + 2)).toNatClampNeg) (X.2.1.2.2 ((x4 + 3)).toNatClampNeg) (X.2.1.2.2 ((x4 + 4)).toNatClampNeg) I2 (fun r5 I4 => (wX8_thrown I4 (fun r6 => ((r6 = r1 → ((¬ r1 = 0 → (∀ v7 : Int32, v7 = (x4 + 6) → (K v7 S I4 J3 (k + 1) (n + 6)))) ∧ (r1 = 0 → (vp_in 0 1 ∧ (((lg_cmp (J3 79 (0 : Int32).toNatClampNeg) ((r5).toInt64)) = 0 → (∀ v8 : Int32, v8 = (x4 + 6) → (K v8 S I4 J3 (k + 1) (n + 6)))) ∧ (¬ (lg_cmp (J3 79 (0 : Int32).toNatClampNeg) ((r5).toInt64)) = 0 → post 0)))))) ∧ (¬ r6 = r1 → post 0))))))))))))))))
set_option maxRecDepth 100000 in
set_option maxHeartbeats 4000000 in
theorem swL_c4 {X : QX} {K : Int32 → QS → QI → QJ → Nat → Nat → Prop} {post : Int32 → Prop} (hK : ∀ (i : Int32) (S : QS) (I : QI) (J : QJ) (k n : Nat), Sa S → S.1 1000000 = X.2.1.1 → k ≤ 601024 → n ≤ 7293034 → K i S I J k n → V X mL_law 1000 601024 7293034 (fun o _ _ _ => ∃ r : Int32, o = .inl (some (.int r)) ∧ post r) 23 [(0, .ref 1000000), (1, .ref 0), (2, .ref 51), (3, .ref 79), (4, .int i)] [] S I J k n) {x4 : Int32} {S : QS} {I : QI} {J : QJ} {k n : Nat} (hA : Sa S) (hScr : S.1 1000000 = X.2.1.1) (hk : k ≤ 601024) (hn : n ≤ 7293034) (h : wL_c4 X K post x4 S I J k n) : V X mL_law 1000 601024 7293034 (fun o _ _ _ => ∃ r : Int32, o = .inl (some (.int r)) ∧ post r) 420 [(0, .ref 1000000), (1, .ref 0), (2, .ref 51), (3, .ref 79), (4, .int x4)] [] S I J k n := by
  have hS := hA.1
  replace h : (vp_in (x4 + 1) X.2.1.2.1 ∧ (vp_in (x4 + 2) X.2.1.2.1 ∧ (vp_in (x4 + 3) X.2.1.2.1 ∧ (vp_in (x4 + 4) X.2.1.2.1 ∧ (k + 1 ≤ 601024 ∧ n + 6 ≤ 7293034 ∧ wL_filter (X.2.1.2.2 ((x4 + 1)).toNatClampNeg) (X.2.1.2.2 ((x4 + 2)).toNatClampNeg) (X.2.1.2.2 ((x4 + 3)).toNatClampNeg) (X.2.1.2.2 ((x4 + 4)).toNatClampNeg) I J (fun r1 I2 J3 => (vp_in (x4 + 1) X.2.1.2.1 ∧ (vp_in (x4 + 2) X.2.1.2.1 ∧ (vp_in (x4 + 3) X.2.1.2.1 ∧ (vp_in (x4 + 4) X.2.1.2.1 ∧ (wX8_filter (X.2.1.2.2 ((x4 + 1)).toNatClampNeg) (X.2.1.2.2 ((x4 + 2)).toNatClampNeg) (X.2.1.2.2 ((x4 + 3)).toNatClampNeg) (X.2.1.2.2 ((x4 + 4)).toNatClampNeg) I2 (fun r5 I4 => (wX8_thrown I4 (fun r6 => ((r6 = r1 → ((¬ r1 = 0 → (∀ v7 : Int32, v7 = (x4 + 6) → (K v7 S I4 J3 (k + 1) (n + 6)))) ∧ (r1 = 0 → (vp_in 0 1 ∧ (((lg_cmp (J3 79 (0 : Int32).toNatClampNeg) ((r5).toInt64)) = 0 → (∀ v8 : Int32, v8 = (x4 + 6) → (K v8 S I4 J3 (k + 1) (n + 6)))) ∧ (¬ (lg_cmp (J3 79 (0 : Int32).toNatClampNeg) ((r5).toInt64)) = 0 → post 0)))))) ∧ (¬ r6 = r1 → post 0)))))))))))))))) := h
  refine V_aload_n dL_law_420 rfl rfl ?_
  refine V_aload_n dL_law_421 rfl rfl ?_
  refine V_iload dL_law_422 rfl ?_
  refine V_iconst (v := 1) dL_law_424 (by decide) ?_
  refine V_iadd dL_law_425 ?_
  obtain ⟨hb, h⟩ := h
  refine V_sld dL_law_426 hScr hb ?_
  refine V_aload_n dL_law_427 rfl rfl ?_
  refine V_iload dL_law_428 rfl ?_
  refine V_iconst (v := 2) dL_law_430 (by decide) ?_
  refine V_iadd dL_law_431 ?_
  obtain ⟨hb, h⟩ := h
  refine V_sld dL_law_432 hScr hb ?_
  refine V_aload_n dL_law_433 rfl rfl ?_
  refine V_iload dL_law_434 rfl ?_
  refine V_iconst (v := 3) dL_law_436 (by decide) ?_
  refine V_iadd dL_law_437 ?_
  obtain ⟨hb, h⟩ := h
  refine V_sld dL_law_438 hScr hb ?_
  refine V_aload_n dL_law_439 rfl rfl ?_
  refine V_iload dL_law_440 rfl ?_
  refine V_iconst (v := 4) dL_law_442 (by decide) ?_
  refine V_iadd dL_law_443 ?_
  obtain ⟨hb, h⟩ := h
  refine V_sld dL_law_444 hScr hb ?_
  refine V_aload_n dL_law_445 rfl rfl ?_
  obtain ⟨hk9, hn9, h⟩ := h
  refine V_callSXi (st := []) [.ref 0, .int (X.2.1.2.2 ((x4 + 1)).toNatClampNeg), .int (X.2.1.2.2 ((x4 + 2)).toNatClampNeg), .int (X.2.1.2.2 ((x4 + 3)).toNatClampNeg), .int (X.2.1.2.2 ((x4 + 4)).toNatClampNeg), .ref 79] dL_law_446 ok_mL_filter (by decide) ml_RL_115 st_mL_filter (Nat.le_of_ble_eq_true rfl) (by decide) hk9 hn9 (s_mL_filter hS h) (fun r1 I2 J3 h => ?_)
  clear hk hn
  have hk := hk9
  have hn := hn9
  refine V_istore (lo2 := [(5, .int r1), (0, .ref 1000000), (1, .ref 0), (2, .ref 51), (3, .ref 79), (4, .int x4)]) dL_law_449 (by decide) rfl ?_
  refine V_aload_n dL_law_451 rfl rfl ?_
  refine V_aload_n dL_law_452 rfl rfl ?_
  refine V_iload dL_law_453 rfl ?_
  refine V_iconst (v := 1) dL_law_455 (by decide) ?_
  refine V_iadd dL_law_456 ?_
  obtain ⟨hb, h⟩ := h
  refine V_sld dL_law_457 hScr hb ?_
  refine V_aload_n dL_law_458 rfl rfl ?_
  refine V_iload dL_law_459 rfl ?_
  refine V_iconst (v := 2) dL_law_461 (by decide) ?_
  refine V_iadd dL_law_462 ?_
  obtain ⟨hb, h⟩ := h
  refine V_sld dL_law_463 hScr hb ?_
  refine V_aload_n dL_law_464 rfl rfl ?_
  refine V_iload dL_law_465 rfl ?_
  refine V_iconst (v := 3) dL_law_467 (by decide) ?_
  refine V_iadd dL_law_468 ?_
  obtain ⟨hb, h⟩ := h
  refine V_sld dL_law_469 hScr hb ?_
  refine V_aload_n dL_law_470 rfl rfl ?_
  refine V_iload dL_law_471 rfl ?_
  refine V_iconst (v := 4) dL_law_473 (by decide) ?_
  refine V_iadd dL_law_474 ?_
  obtain ⟨hb, h⟩ := h
  refine V_sld dL_law_475 hScr hb ?_
  refine V_callVi (st := []) [.int (X.2.1.2.2 ((x4 + 1)).toNatClampNeg), .int (X.2.1.2.2 ((x4 + 2)).toNatClampNeg), .int (X.2.1.2.2 ((x4 + 3)).toNatClampNeg), .int (X.2.1.2.2 ((x4 + 4)).toNatClampNeg)] dL_law_476 ok_mX8_filter rfl ml_RL_117 in_mX8_filter se_mX8_filter (hS.n 51 rfl) (hS.k 51 8 rfl) (by decide) rfl (Nat.le_of_ble_eq_true rfl) (by decide) hk hn (s_mX8_filter hS h) (fun r5 I4 J9 h => ?_)
  obtain ⟨rfl, h⟩ := h
  refine V_istore (lo2 := [(6, .int r5), (5, .int r1), (0, .ref 1000000), (1, .ref 0), (2, .ref 51), (3, .ref 79), (4, .int x4)]) dL_law_479 (by decide) rfl ?_
  refine V_aload_n dL_law_481 rfl rfl ?_
  refine V_callVi (st := []) [] dL_law_482 ok_mX8_thrown rfl ml_RL_100 in_mX8_thrown se_mX8_thrown (hS.n 51 rfl) (hS.k 51 8 rfl) (by decide) rfl (Nat.le_of_ble_eq_true rfl) (by decide) hk hn (s_mX8_thrown hS h) (fun r6 I9 J9 h => ?_)
  obtain ⟨rfl, rfl, h⟩ := h
  refine V_iload dL_law_485 rfl ?_
  refine V_icmp_eq 492 dL_law_487 rfl (fun hc => ?_) (fun hc => ?_)
  · replace h := h.1 hc
    refine V_iload dL_law_492 rfl ?_
    refine V_if_ne 509 dL_law_494 rfl (fun hc => ?_) (fun hc => ?_)
    · replace h := h.1 hc
      refine V_goto 1779 dL_law_509 rfl ?_
      obtain ⟨v7, e_v7⟩ : ∃ z : Int32, z = (x4 + 6) := ⟨_, rfl⟩
      replace h := h v7 e_v7
      refine V_iinc (lo2 := [(4, .int v7), (6, .int r5), (5, .int r1), (0, .ref 1000000), (1, .ref 0), (2, .ref 51), (3, .ref 79)]) 6 dL_law_1779 rfl (v := v7) (by rw [e_v7]; first | done | rfl) (by decide) rfl ?_
      refine V_goto 23 dL_law_1782 rfl ?_
      refine V_sub (lo2 := [(0, .ref 1000000), (1, .ref 0), (2, .ref 51), (3, .ref 79), (4, .int v7)]) [3, 4, 5, 6, 0] rfl ?_
      exact hK _ _ _ _ _ _ hA hScr hk hn h
    · replace h := h.2 hc
      refine V_aload_n dL_law_497 rfl rfl ?_
      refine V_iconst (v := 0) dL_law_498 (by decide) ?_
      obtain ⟨hb, h⟩ := h
      refine V_lald dL_law_499 (hS.n 79 rfl) (hS.k 79 10 rfl) (by rw [(hS.z 79 1 rfl)]; exact hb) ?_
      refine V_iload dL_law_500 rfl ?_
      refine V_i2l dL_law_502 ?_
      refine V_lcmp dL_law_503 ?_
      refine V_if_eq 509 dL_law_504 rfl (fun hc => ?_) (fun hc => ?_)
      · replace h := h.1 hc
        refine V_goto 1779 dL_law_509 rfl ?_
        obtain ⟨v8, e_v8⟩ : ∃ z : Int32, z = (x4 + 6) := ⟨_, rfl⟩
        replace h := h v8 e_v8
        refine V_iinc (lo2 := [(4, .int v8), (6, .int r5), (5, .int r1), (0, .ref 1000000), (1, .ref 0), (2, .ref 51), (3, .ref 79)]) 6 dL_law_1779 rfl (v := v8) (by rw [e_v8]; first | done | rfl) (by decide) rfl ?_
        refine V_goto 23 dL_law_1782 rfl ?_
        refine V_sub (lo2 := [(0, .ref 1000000), (1, .ref 0), (2, .ref 51), (3, .ref 79), (4, .int v8)]) [3, 4, 5, 6, 0] rfl ?_
        exact hK _ _ _ _ _ _ hA hScr hk hn h
      · replace h := h.2 hc
        refine V_iconst (v := 0) dL_law_507 (by decide) ?_
        exact V_zret dL_law_508 rfl (by decide) hk hn ⟨_, rfl, h⟩
  · replace h := h.2 hc
    refine V_iconst (v := 0) dL_law_490 (by decide) ?_
    exact V_zret dL_law_491 rfl (by decide) hk hn ⟨_, rfl, h⟩
def wL_c5 (X : QX) (K : Int32 → QS → QI → QJ → Nat → Nat → Prop) (post : Int32 → Prop) (x4 : Int32) (S : QS) (I : QI) (J : QJ) (k n : Nat) : Prop := (vp_in (x4 + 1) X.2.1.2.1 ∧ (vp_in (x4 + 2) X.2.1.2.1 ∧ (vp_in (x4 + 3) X.2.1.2.1 ∧ (vp_in (x4 + 4) X.2.1.2.1 ∧ (vp_in (x4 + 5) X.2.1.2.1 ∧ (k + 1 ≤ 601024 ∧ n + 6 ≤ 7293034 ∧ wL_join (X.2.1.2.2 ((x4 + 1)).toNatClampNeg) (X.2.1.2.2 ((x4 + 2)).toNatClampNeg) (X.2.1.2.2 ((x4 + 3)).toNatClampNeg) (X.2.1.2.2 ((x4 + 4)).toNatClampNeg) (X.2.1.2.2 ((x4 + 5)).toNatClampNeg) I J (fun r1 I2 J3 => (vp_in (x4 + 1) X.2.1.2.1 ∧ (vp_in (x4 + 2) X.2.1.2.1 ∧ (vp_in (x4 + 3) X.2.1.2.1 ∧ (vp_in (x4 + 4) X.2.1.2.1 ∧ (vp_in (x4 + 5) X.2.1.2.1 ∧ (wX8_join (X.2.1.2.2 ((x4 + 1)).toNatClampNeg) (X.2.1.2.2 ((x4 + 2)).toNatClampNeg) (X.2.1.2.2 ((x4 + 3)).toNatClampNeg) (X.2.1.2.2 ((x4 + 4)).toNatClampNeg) (X.2.1.2.2 ((x4 + 5)).toNatClampNeg) I2 (fun r5 I4 => (wX8_thrown I4 (fun r6 => ((r6 = r1 → ((¬ r1 = 0 → (∀ v7 : Int32, v7 = (x4 + 6) → (K v7 S I4 J3 (k + 1) (n + 6)))) ∧ (r1 = 0 → (vp_in 0 1 ∧ (((lg_cmp (J3 79 (0 : Int32).toNatClampNeg) ((r5).toInt64)) = 0 → (∀ v8 : Int32, v8 = (x4 + 6) → (K v8 S I4 J3 (k + 1) (n + 6)))) ∧ (¬ (lg_cmp (J3 79 (0 : Int32).toNatClampNeg) ((r5).toInt64)) = 0 → post 0)))))) ∧ (¬ r6 = r1 → post 0))))))))))))))))))
set_option maxRecDepth 100000 in
set_option maxHeartbeats 4000000 in
theorem swL_c5 {X : QX} {K : Int32 → QS → QI → QJ → Nat → Nat → Prop} {post : Int32 → Prop} (hK : ∀ (i : Int32) (S : QS) (I : QI) (J : QJ) (k n : Nat), Sa S → S.1 1000000 = X.2.1.1 → k ≤ 601024 → n ≤ 7293034 → K i S I J k n → V X mL_law 1000 601024 7293034 (fun o _ _ _ => ∃ r : Int32, o = .inl (some (.int r)) ∧ post r) 23 [(0, .ref 1000000), (1, .ref 0), (2, .ref 51), (3, .ref 79), (4, .int i)] [] S I J k n) {x4 : Int32} {S : QS} {I : QI} {J : QJ} {k n : Nat} (hA : Sa S) (hScr : S.1 1000000 = X.2.1.1) (hk : k ≤ 601024) (hn : n ≤ 7293034) (h : wL_c5 X K post x4 S I J k n) : V X mL_law 1000 601024 7293034 (fun o _ _ _ => ∃ r : Int32, o = .inl (some (.int r)) ∧ post r) 512 [(0, .ref 1000000), (1, .ref 0), (2, .ref 51), (3, .ref 79), (4, .int x4)] [] S I J k n := by
  have hS := hA.1
  replace h : (vp_in (x4 + 1) X.2.1.2.1 ∧ (vp_in (x4 + 2) X.2.1.2.1 ∧ (vp_in (x4 + 3) X.2.1.2.1 ∧ (vp_in (x4 + 4) X.2.1.2.1 ∧ (vp_in (x4 + 5) X.2.1.2.1 ∧ (k + 1 ≤ 601024 ∧ n + 6 ≤ 7293034 ∧ wL_join (X.2.1.2.2 ((x4 + 1)).toNatClampNeg) (X.2.1.2.2 ((x4 + 2)).toNatClampNeg) (X.2.1.2.2 ((x4 + 3)).toNatClampNeg) (X.2.1.2.2 ((x4 + 4)).toNatClampNeg) (X.2.1.2.2 ((x4 + 5)).toNatClampNeg) I J (fun r1 I2 J3 => (vp_in (x4 + 1) X.2.1.2.1 ∧ (vp_in (x4 + 2) X.2.1.2.1 ∧ (vp_in (x4 + 3) X.2.1.2.1 ∧ (vp_in (x4 + 4) X.2.1.2.1 ∧ (vp_in (x4 + 5) X.2.1.2.1 ∧ (wX8_join (X.2.1.2.2 ((x4 + 1)).toNatClampNeg) (X.2.1.2.2 ((x4 + 2)).toNatClampNeg) (X.2.1.2.2 ((x4 + 3)).toNatClampNeg) (X.2.1.2.2 ((x4 + 4)).toNatClampNeg) (X.2.1.2.2 ((x4 + 5)).toNatClampNeg) I2 (fun r5 I4 => (wX8_thrown I4 (fun r6 => ((r6 = r1 → ((¬ r1 = 0 → (∀ v7 : Int32, v7 = (x4 + 6) → (K v7 S I4 J3 (k + 1) (n + 6)))) ∧ (r1 = 0 → (vp_in 0 1 ∧ (((lg_cmp (J3 79 (0 : Int32).toNatClampNeg) ((r5).toInt64)) = 0 → (∀ v8 : Int32, v8 = (x4 + 6) → (K v8 S I4 J3 (k + 1) (n + 6)))) ∧ (¬ (lg_cmp (J3 79 (0 : Int32).toNatClampNeg) ((r5).toInt64)) = 0 → post 0)))))) ∧ (¬ r6 = r1 → post 0)))))))))))))))))) := h
  refine V_aload_n dL_law_512 rfl rfl ?_
  refine V_aload_n dL_law_513 rfl rfl ?_
  refine V_iload dL_law_514 rfl ?_
  refine V_iconst (v := 1) dL_law_516 (by decide) ?_
  refine V_iadd dL_law_517 ?_
  obtain ⟨hb, h⟩ := h
  refine V_sld dL_law_518 hScr hb ?_
  refine V_aload_n dL_law_519 rfl rfl ?_
  refine V_iload dL_law_520 rfl ?_
  refine V_iconst (v := 2) dL_law_522 (by decide) ?_
  refine V_iadd dL_law_523 ?_
  obtain ⟨hb, h⟩ := h
  refine V_sld dL_law_524 hScr hb ?_
  refine V_aload_n dL_law_525 rfl rfl ?_
  refine V_iload dL_law_526 rfl ?_
  refine V_iconst (v := 3) dL_law_528 (by decide) ?_
  refine V_iadd dL_law_529 ?_
  obtain ⟨hb, h⟩ := h
  refine V_sld dL_law_530 hScr hb ?_
  refine V_aload_n dL_law_531 rfl rfl ?_
  refine V_iload dL_law_532 rfl ?_
  refine V_iconst (v := 4) dL_law_534 (by decide) ?_
  refine V_iadd dL_law_535 ?_
  obtain ⟨hb, h⟩ := h
  refine V_sld dL_law_536 hScr hb ?_
  refine V_aload_n dL_law_537 rfl rfl ?_
  refine V_iload dL_law_538 rfl ?_
  refine V_iconst (v := 5) dL_law_540 (by decide) ?_
  refine V_iadd dL_law_541 ?_
  obtain ⟨hb, h⟩ := h
  refine V_sld dL_law_542 hScr hb ?_
  refine V_aload_n dL_law_543 rfl rfl ?_
  obtain ⟨hk9, hn9, h⟩ := h
  refine V_callSXi (st := []) [.ref 0, .int (X.2.1.2.2 ((x4 + 1)).toNatClampNeg), .int (X.2.1.2.2 ((x4 + 2)).toNatClampNeg), .int (X.2.1.2.2 ((x4 + 3)).toNatClampNeg), .int (X.2.1.2.2 ((x4 + 4)).toNatClampNeg), .int (X.2.1.2.2 ((x4 + 5)).toNatClampNeg), .ref 79] dL_law_544 ok_mL_join (by decide) ml_RL_118 st_mL_join (Nat.le_of_ble_eq_true rfl) (by decide) hk9 hn9 (s_mL_join hS h) (fun r1 I2 J3 h => ?_)
  clear hk hn
  have hk := hk9
  have hn := hn9
  refine V_istore (lo2 := [(5, .int r1), (0, .ref 1000000), (1, .ref 0), (2, .ref 51), (3, .ref 79), (4, .int x4)]) dL_law_547 (by decide) rfl ?_
  refine V_aload_n dL_law_549 rfl rfl ?_
  refine V_aload_n dL_law_550 rfl rfl ?_
  refine V_iload dL_law_551 rfl ?_
  refine V_iconst (v := 1) dL_law_553 (by decide) ?_
  refine V_iadd dL_law_554 ?_
  obtain ⟨hb, h⟩ := h
  refine V_sld dL_law_555 hScr hb ?_
  refine V_aload_n dL_law_556 rfl rfl ?_
  refine V_iload dL_law_557 rfl ?_
  refine V_iconst (v := 2) dL_law_559 (by decide) ?_
  refine V_iadd dL_law_560 ?_
  obtain ⟨hb, h⟩ := h
  refine V_sld dL_law_561 hScr hb ?_
  refine V_aload_n dL_law_562 rfl rfl ?_
  refine V_iload dL_law_563 rfl ?_
  refine V_iconst (v := 3) dL_law_565 (by decide) ?_
  refine V_iadd dL_law_566 ?_
  obtain ⟨hb, h⟩ := h
  refine V_sld dL_law_567 hScr hb ?_
  refine V_aload_n dL_law_568 rfl rfl ?_
  refine V_iload dL_law_569 rfl ?_
  refine V_iconst (v := 4) dL_law_571 (by decide) ?_
  refine V_iadd dL_law_572 ?_
  obtain ⟨hb, h⟩ := h
  refine V_sld dL_law_573 hScr hb ?_
  refine V_aload_n dL_law_574 rfl rfl ?_
  refine V_iload dL_law_575 rfl ?_
  refine V_iconst (v := 5) dL_law_577 (by decide) ?_
  refine V_iadd dL_law_578 ?_
  obtain ⟨hb, h⟩ := h
  refine V_sld dL_law_579 hScr hb ?_
  refine V_callVi (st := []) [.int (X.2.1.2.2 ((x4 + 1)).toNatClampNeg), .int (X.2.1.2.2 ((x4 + 2)).toNatClampNeg), .int (X.2.1.2.2 ((x4 + 3)).toNatClampNeg), .int (X.2.1.2.2 ((x4 + 4)).toNatClampNeg), .int (X.2.1.2.2 ((x4 + 5)).toNatClampNeg)] dL_law_580 ok_mX8_join rfl ml_RL_121 in_mX8_join se_mX8_join (hS.n 51 rfl) (hS.k 51 8 rfl) (by decide) rfl (Nat.le_of_ble_eq_true rfl) (by decide) hk hn (s_mX8_join hS h) (fun r5 I4 J9 h => ?_)
  obtain ⟨rfl, h⟩ := h
  refine V_istore (lo2 := [(6, .int r5), (5, .int r1), (0, .ref 1000000), (1, .ref 0), (2, .ref 51), (3, .ref 79), (4, .int x4)]) dL_law_583 (by decide) rfl ?_
  refine V_aload_n dL_law_585 rfl rfl ?_
  refine V_callVi (st := []) [] dL_law_586 ok_mX8_thrown rfl ml_RL_100 in_mX8_thrown se_mX8_thrown (hS.n 51 rfl) (hS.k 51 8 rfl) (by decide) rfl (Nat.le_of_ble_eq_true rfl) (by decide) hk hn (s_mX8_thrown hS h) (fun r6 I9 J9 h => ?_)
  obtain ⟨rfl, rfl, h⟩ := h
  refine V_iload dL_law_589 rfl ?_
  refine V_icmp_eq 596 dL_law_591 rfl (fun hc => ?_) (fun hc => ?_)
  · replace h := h.1 hc
    refine V_iload dL_law_596 rfl ?_
    refine V_if_ne 613 dL_law_598 rfl (fun hc => ?_) (fun hc => ?_)
    · replace h := h.1 hc
      refine V_goto 1779 dL_law_613 rfl ?_
      obtain ⟨v7, e_v7⟩ : ∃ z : Int32, z = (x4 + 6) := ⟨_, rfl⟩
      replace h := h v7 e_v7
      refine V_iinc (lo2 := [(4, .int v7), (6, .int r5), (5, .int r1), (0, .ref 1000000), (1, .ref 0), (2, .ref 51), (3, .ref 79)]) 6 dL_law_1779 rfl (v := v7) (by rw [e_v7]; first | done | rfl) (by decide) rfl ?_
      refine V_goto 23 dL_law_1782 rfl ?_
      refine V_sub (lo2 := [(0, .ref 1000000), (1, .ref 0), (2, .ref 51), (3, .ref 79), (4, .int v7)]) [3, 4, 5, 6, 0] rfl ?_
      exact hK _ _ _ _ _ _ hA hScr hk hn h
    · replace h := h.2 hc
      refine V_aload_n dL_law_601 rfl rfl ?_
      refine V_iconst (v := 0) dL_law_602 (by decide) ?_
      obtain ⟨hb, h⟩ := h
      refine V_lald dL_law_603 (hS.n 79 rfl) (hS.k 79 10 rfl) (by rw [(hS.z 79 1 rfl)]; exact hb) ?_
      refine V_iload dL_law_604 rfl ?_
      refine V_i2l dL_law_606 ?_
      refine V_lcmp dL_law_607 ?_
      refine V_if_eq 613 dL_law_608 rfl (fun hc => ?_) (fun hc => ?_)
      · replace h := h.1 hc
        refine V_goto 1779 dL_law_613 rfl ?_
        obtain ⟨v8, e_v8⟩ : ∃ z : Int32, z = (x4 + 6) := ⟨_, rfl⟩
        replace h := h v8 e_v8
        refine V_iinc (lo2 := [(4, .int v8), (6, .int r5), (5, .int r1), (0, .ref 1000000), (1, .ref 0), (2, .ref 51), (3, .ref 79)]) 6 dL_law_1779 rfl (v := v8) (by rw [e_v8]; first | done | rfl) (by decide) rfl ?_
        refine V_goto 23 dL_law_1782 rfl ?_
        refine V_sub (lo2 := [(0, .ref 1000000), (1, .ref 0), (2, .ref 51), (3, .ref 79), (4, .int v8)]) [3, 4, 5, 6, 0] rfl ?_
        exact hK _ _ _ _ _ _ hA hScr hk hn h
      · replace h := h.2 hc
        refine V_iconst (v := 0) dL_law_611 (by decide) ?_
        exact V_zret dL_law_612 rfl (by decide) hk hn ⟨_, rfl, h⟩
  · replace h := h.2 hc
    refine V_iconst (v := 0) dL_law_594 (by decide) ?_
    exact V_zret dL_law_595 rfl (by decide) hk hn ⟨_, rfl, h⟩
def wL_c6 (X : QX) (K : Int32 → QS → QI → QJ → Nat → Nat → Prop) (post : Int32 → Prop) (x4 : Int32) (S : QS) (I : QI) (J : QJ) (k n : Nat) : Prop := (vp_in (x4 + 1) X.2.1.2.1 ∧ (vp_in (x4 + 2) X.2.1.2.1 ∧ (vp_in (x4 + 3) X.2.1.2.1 ∧ (vp_in (x4 + 4) X.2.1.2.1 ∧ (k + 1 ≤ 601024 ∧ n + 6 ≤ 7293034 ∧ wL_group (X.2.1.2.2 ((x4 + 1)).toNatClampNeg) (X.2.1.2.2 ((x4 + 2)).toNatClampNeg) (X.2.1.2.2 ((x4 + 3)).toNatClampNeg) (X.2.1.2.2 ((x4 + 4)).toNatClampNeg) I J (fun r1 I2 J3 => (vp_in (x4 + 1) X.2.1.2.1 ∧ (vp_in (x4 + 2) X.2.1.2.1 ∧ (vp_in (x4 + 3) X.2.1.2.1 ∧ (vp_in (x4 + 4) X.2.1.2.1 ∧ (wX8_group (X.2.1.2.2 ((x4 + 1)).toNatClampNeg) (X.2.1.2.2 ((x4 + 2)).toNatClampNeg) (X.2.1.2.2 ((x4 + 3)).toNatClampNeg) (X.2.1.2.2 ((x4 + 4)).toNatClampNeg) I2 (fun r5 I4 => (wX8_thrown I4 (fun r6 => ((r6 = r1 → ((¬ r1 = 0 → (∀ v7 : Int32, v7 = (x4 + 6) → (K v7 S I4 J3 (k + 1) (n + 6)))) ∧ (r1 = 0 → (vp_in 0 1 ∧ (((lg_cmp (J3 79 (0 : Int32).toNatClampNeg) ((r5).toInt64)) = 0 → (∀ v8 : Int32, v8 = (x4 + 6) → (K v8 S I4 J3 (k + 1) (n + 6)))) ∧ (¬ (lg_cmp (J3 79 (0 : Int32).toNatClampNeg) ((r5).toInt64)) = 0 → post 0)))))) ∧ (¬ r6 = r1 → post 0))))))))))))))))
set_option maxRecDepth 100000 in
set_option maxHeartbeats 4000000 in
theorem swL_c6 {X : QX} {K : Int32 → QS → QI → QJ → Nat → Nat → Prop} {post : Int32 → Prop} (hK : ∀ (i : Int32) (S : QS) (I : QI) (J : QJ) (k n : Nat), Sa S → S.1 1000000 = X.2.1.1 → k ≤ 601024 → n ≤ 7293034 → K i S I J k n → V X mL_law 1000 601024 7293034 (fun o _ _ _ => ∃ r : Int32, o = .inl (some (.int r)) ∧ post r) 23 [(0, .ref 1000000), (1, .ref 0), (2, .ref 51), (3, .ref 79), (4, .int i)] [] S I J k n) {x4 : Int32} {S : QS} {I : QI} {J : QJ} {k n : Nat} (hA : Sa S) (hScr : S.1 1000000 = X.2.1.1) (hk : k ≤ 601024) (hn : n ≤ 7293034) (h : wL_c6 X K post x4 S I J k n) : V X mL_law 1000 601024 7293034 (fun o _ _ _ => ∃ r : Int32, o = .inl (some (.int r)) ∧ post r) 616 [(0, .ref 1000000), (1, .ref 0), (2, .ref 51), (3, .ref 79), (4, .int x4)] [] S I J k n := by
  have hS := hA.1
  replace h : (vp_in (x4 + 1) X.2.1.2.1 ∧ (vp_in (x4 + 2) X.2.1.2.1 ∧ (vp_in (x4 + 3) X.2.1.2.1 ∧ (vp_in (x4 + 4) X.2.1.2.1 ∧ (k + 1 ≤ 601024 ∧ n + 6 ≤ 7293034 ∧ wL_group (X.2.1.2.2 ((x4 + 1)).toNatClampNeg) (X.2.1.2.2 ((x4 + 2)).toNatClampNeg) (X.2.1.2.2 ((x4 + 3)).toNatClampNeg) (X.2.1.2.2 ((x4 + 4)).toNatClampNeg) I J (fun r1 I2 J3 => (vp_in (x4 + 1) X.2.1.2.1 ∧ (vp_in (x4 + 2) X.2.1.2.1 ∧ (vp_in (x4 + 3) X.2.1.2.1 ∧ (vp_in (x4 + 4) X.2.1.2.1 ∧ (wX8_group (X.2.1.2.2 ((x4 + 1)).toNatClampNeg) (X.2.1.2.2 ((x4 + 2)).toNatClampNeg) (X.2.1.2.2 ((x4 + 3)).toNatClampNeg) (X.2.1.2.2 ((x4 + 4)).toNatClampNeg) I2 (fun r5 I4 => (wX8_thrown I4 (fun r6 => ((r6 = r1 → ((¬ r1 = 0 → (∀ v7 : Int32, v7 = (x4 + 6) → (K v7 S I4 J3 (k + 1) (n + 6)))) ∧ (r1 = 0 → (vp_in 0 1 ∧ (((lg_cmp (J3 79 (0 : Int32).toNatClampNeg) ((r5).toInt64)) = 0 → (∀ v8 : Int32, v8 = (x4 + 6) → (K v8 S I4 J3 (k + 1) (n + 6)))) ∧ (¬ (lg_cmp (J3 79 (0 : Int32).toNatClampNeg) ((r5).toInt64)) = 0 → post 0)))))) ∧ (¬ r6 = r1 → post 0)))))))))))))))) := h
  refine V_aload_n dL_law_616 rfl rfl ?_
  refine V_aload_n dL_law_617 rfl rfl ?_
  refine V_iload dL_law_618 rfl ?_
  refine V_iconst (v := 1) dL_law_620 (by decide) ?_
  refine V_iadd dL_law_621 ?_
  obtain ⟨hb, h⟩ := h
  refine V_sld dL_law_622 hScr hb ?_
  refine V_aload_n dL_law_623 rfl rfl ?_
  refine V_iload dL_law_624 rfl ?_
  refine V_iconst (v := 2) dL_law_626 (by decide) ?_
  refine V_iadd dL_law_627 ?_
  obtain ⟨hb, h⟩ := h
  refine V_sld dL_law_628 hScr hb ?_
  refine V_aload_n dL_law_629 rfl rfl ?_
  refine V_iload dL_law_630 rfl ?_
  refine V_iconst (v := 3) dL_law_632 (by decide) ?_
  refine V_iadd dL_law_633 ?_
  obtain ⟨hb, h⟩ := h
  refine V_sld dL_law_634 hScr hb ?_
  refine V_aload_n dL_law_635 rfl rfl ?_
  refine V_iload dL_law_636 rfl ?_
  refine V_iconst (v := 4) dL_law_638 (by decide) ?_
  refine V_iadd dL_law_639 ?_
  obtain ⟨hb, h⟩ := h
  refine V_sld dL_law_640 hScr hb ?_
  refine V_aload_n dL_law_641 rfl rfl ?_
  obtain ⟨hk9, hn9, h⟩ := h
  refine V_callSXi (st := []) [.ref 0, .int (X.2.1.2.2 ((x4 + 1)).toNatClampNeg), .int (X.2.1.2.2 ((x4 + 2)).toNatClampNeg), .int (X.2.1.2.2 ((x4 + 3)).toNatClampNeg), .int (X.2.1.2.2 ((x4 + 4)).toNatClampNeg), .ref 79] dL_law_642 ok_mL_group (by decide) ml_RL_122 st_mL_group (Nat.le_of_ble_eq_true rfl) (by decide) hk9 hn9 (s_mL_group hS h) (fun r1 I2 J3 h => ?_)
  clear hk hn
  have hk := hk9
  have hn := hn9
  refine V_istore (lo2 := [(5, .int r1), (0, .ref 1000000), (1, .ref 0), (2, .ref 51), (3, .ref 79), (4, .int x4)]) dL_law_645 (by decide) rfl ?_
  refine V_aload_n dL_law_647 rfl rfl ?_
  refine V_aload_n dL_law_648 rfl rfl ?_
  refine V_iload dL_law_649 rfl ?_
  refine V_iconst (v := 1) dL_law_651 (by decide) ?_
  refine V_iadd dL_law_652 ?_
  obtain ⟨hb, h⟩ := h
  refine V_sld dL_law_653 hScr hb ?_
  refine V_aload_n dL_law_654 rfl rfl ?_
  refine V_iload dL_law_655 rfl ?_
  refine V_iconst (v := 2) dL_law_657 (by decide) ?_
  refine V_iadd dL_law_658 ?_
  obtain ⟨hb, h⟩ := h
  refine V_sld dL_law_659 hScr hb ?_
  refine V_aload_n dL_law_660 rfl rfl ?_
  refine V_iload dL_law_661 rfl ?_
  refine V_iconst (v := 3) dL_law_663 (by decide) ?_
  refine V_iadd dL_law_664 ?_
  obtain ⟨hb, h⟩ := h
  refine V_sld dL_law_665 hScr hb ?_
  refine V_aload_n dL_law_666 rfl rfl ?_
  refine V_iload dL_law_667 rfl ?_
  refine V_iconst (v := 4) dL_law_669 (by decide) ?_
  refine V_iadd dL_law_670 ?_
  obtain ⟨hb, h⟩ := h
  refine V_sld dL_law_671 hScr hb ?_
  refine V_callVi (st := []) [.int (X.2.1.2.2 ((x4 + 1)).toNatClampNeg), .int (X.2.1.2.2 ((x4 + 2)).toNatClampNeg), .int (X.2.1.2.2 ((x4 + 3)).toNatClampNeg), .int (X.2.1.2.2 ((x4 + 4)).toNatClampNeg)] dL_law_672 ok_mX8_group rfl ml_RL_124 in_mX8_group se_mX8_group (hS.n 51 rfl) (hS.k 51 8 rfl) (by decide) rfl (Nat.le_of_ble_eq_true rfl) (by decide) hk hn (s_mX8_group hS h) (fun r5 I4 J9 h => ?_)
  obtain ⟨rfl, h⟩ := h
  refine V_istore (lo2 := [(6, .int r5), (5, .int r1), (0, .ref 1000000), (1, .ref 0), (2, .ref 51), (3, .ref 79), (4, .int x4)]) dL_law_675 (by decide) rfl ?_
  refine V_aload_n dL_law_677 rfl rfl ?_
  refine V_callVi (st := []) [] dL_law_678 ok_mX8_thrown rfl ml_RL_100 in_mX8_thrown se_mX8_thrown (hS.n 51 rfl) (hS.k 51 8 rfl) (by decide) rfl (Nat.le_of_ble_eq_true rfl) (by decide) hk hn (s_mX8_thrown hS h) (fun r6 I9 J9 h => ?_)
  obtain ⟨rfl, rfl, h⟩ := h
  refine V_iload dL_law_681 rfl ?_
  refine V_icmp_eq 688 dL_law_683 rfl (fun hc => ?_) (fun hc => ?_)
  · replace h := h.1 hc
    refine V_iload dL_law_688 rfl ?_
    refine V_if_ne 705 dL_law_690 rfl (fun hc => ?_) (fun hc => ?_)
    · replace h := h.1 hc
      refine V_goto 1779 dL_law_705 rfl ?_
      obtain ⟨v7, e_v7⟩ : ∃ z : Int32, z = (x4 + 6) := ⟨_, rfl⟩
      replace h := h v7 e_v7
      refine V_iinc (lo2 := [(4, .int v7), (6, .int r5), (5, .int r1), (0, .ref 1000000), (1, .ref 0), (2, .ref 51), (3, .ref 79)]) 6 dL_law_1779 rfl (v := v7) (by rw [e_v7]; first | done | rfl) (by decide) rfl ?_
      refine V_goto 23 dL_law_1782 rfl ?_
      refine V_sub (lo2 := [(0, .ref 1000000), (1, .ref 0), (2, .ref 51), (3, .ref 79), (4, .int v7)]) [3, 4, 5, 6, 0] rfl ?_
      exact hK _ _ _ _ _ _ hA hScr hk hn h
    · replace h := h.2 hc
      refine V_aload_n dL_law_693 rfl rfl ?_
      refine V_iconst (v := 0) dL_law_694 (by decide) ?_
      obtain ⟨hb, h⟩ := h
      refine V_lald dL_law_695 (hS.n 79 rfl) (hS.k 79 10 rfl) (by rw [(hS.z 79 1 rfl)]; exact hb) ?_
      refine V_iload dL_law_696 rfl ?_
      refine V_i2l dL_law_698 ?_
      refine V_lcmp dL_law_699 ?_
      refine V_if_eq 705 dL_law_700 rfl (fun hc => ?_) (fun hc => ?_)
      · replace h := h.1 hc
        refine V_goto 1779 dL_law_705 rfl ?_
        obtain ⟨v8, e_v8⟩ : ∃ z : Int32, z = (x4 + 6) := ⟨_, rfl⟩
        replace h := h v8 e_v8
        refine V_iinc (lo2 := [(4, .int v8), (6, .int r5), (5, .int r1), (0, .ref 1000000), (1, .ref 0), (2, .ref 51), (3, .ref 79)]) 6 dL_law_1779 rfl (v := v8) (by rw [e_v8]; first | done | rfl) (by decide) rfl ?_
        refine V_goto 23 dL_law_1782 rfl ?_
        refine V_sub (lo2 := [(0, .ref 1000000), (1, .ref 0), (2, .ref 51), (3, .ref 79), (4, .int v8)]) [3, 4, 5, 6, 0] rfl ?_
        exact hK _ _ _ _ _ _ hA hScr hk hn h
      · replace h := h.2 hc
        refine V_iconst (v := 0) dL_law_703 (by decide) ?_
        exact V_zret dL_law_704 rfl (by decide) hk hn ⟨_, rfl, h⟩
  · replace h := h.2 hc
    refine V_iconst (v := 0) dL_law_686 (by decide) ?_
    exact V_zret dL_law_687 rfl (by decide) hk hn ⟨_, rfl, h⟩
def wL_c7 (X : QX) (K : Int32 → QS → QI → QJ → Nat → Nat → Prop) (post : Int32 → Prop) (x4 : Int32) (S : QS) (I : QI) (J : QJ) (k n : Nat) : Prop := (vp_in (x4 + 1) X.2.1.2.1 ∧ (vp_in (x4 + 2) X.2.1.2.1 ∧ (vp_in (x4 + 3) X.2.1.2.1 ∧ (k + 1 ≤ 601024 ∧ n + 6 ≤ 7293034 ∧ wL_bag (X.2.1.2.2 ((x4 + 1)).toNatClampNeg) (X.2.1.2.2 ((x4 + 2)).toNatClampNeg) (X.2.1.2.2 ((x4 + 3)).toNatClampNeg) I J (fun r1 I2 J3 => (vp_in (x4 + 1) X.2.1.2.1 ∧ (vp_in (x4 + 2) X.2.1.2.1 ∧ (vp_in (x4 + 3) X.2.1.2.1 ∧ (wX8_bag (X.2.1.2.2 ((x4 + 1)).toNatClampNeg) (X.2.1.2.2 ((x4 + 2)).toNatClampNeg) (X.2.1.2.2 ((x4 + 3)).toNatClampNeg) I2 (fun r5 I4 => (wX8_thrown I4 (fun r6 => ((r6 = r1 → ((¬ r1 = 0 → (∀ v7 : Int32, v7 = (x4 + 6) → (K v7 S I4 J3 (k + 1) (n + 6)))) ∧ (r1 = 0 → (vp_in 0 1 ∧ (((lg_cmp (J3 79 (0 : Int32).toNatClampNeg) ((r5).toInt64)) = 0 → (∀ v8 : Int32, v8 = (x4 + 6) → (K v8 S I4 J3 (k + 1) (n + 6)))) ∧ (¬ (lg_cmp (J3 79 (0 : Int32).toNatClampNeg) ((r5).toInt64)) = 0 → post 0)))))) ∧ (¬ r6 = r1 → post 0))))))))))))))
set_option maxRecDepth 100000 in
set_option maxHeartbeats 4000000 in
theorem swL_c7 {X : QX} {K : Int32 → QS → QI → QJ → Nat → Nat → Prop} {post : Int32 → Prop} (hK : ∀ (i : Int32) (S : QS) (I : QI) (J : QJ) (k n : Nat), Sa S → S.1 1000000 = X.2.1.1 → k ≤ 601024 → n ≤ 7293034 → K i S I J k n → V X mL_law 1000 601024 7293034 (fun o _ _ _ => ∃ r : Int32, o = .inl (some (.int r)) ∧ post r) 23 [(0, .ref 1000000), (1, .ref 0), (2, .ref 51), (3, .ref 79), (4, .int i)] [] S I J k n) {x4 : Int32} {S : QS} {I : QI} {J : QJ} {k n : Nat} (hA : Sa S) (hScr : S.1 1000000 = X.2.1.1) (hk : k ≤ 601024) (hn : n ≤ 7293034) (h : wL_c7 X K post x4 S I J k n) : V X mL_law 1000 601024 7293034 (fun o _ _ _ => ∃ r : Int32, o = .inl (some (.int r)) ∧ post r) 708 [(0, .ref 1000000), (1, .ref 0), (2, .ref 51), (3, .ref 79), (4, .int x4)] [] S I J k n := by
  have hS := hA.1
  replace h : (vp_in (x4 + 1) X.2.1.2.1 ∧ (vp_in (x4 + 2) X.2.1.2.1 ∧ (vp_in (x4 + 3) X.2.1.2.1 ∧ (k + 1 ≤ 601024 ∧ n + 6 ≤ 7293034 ∧ wL_bag (X.2.1.2.2 ((x4 + 1)).toNatClampNeg) (X.2.1.2.2 ((x4 + 2)).toNatClampNeg) (X.2.1.2.2 ((x4 + 3)).toNatClampNeg) I J (fun r1 I2 J3 => (vp_in (x4 + 1) X.2.1.2.1 ∧ (vp_in (x4 + 2) X.2.1.2.1 ∧ (vp_in (x4 + 3) X.2.1.2.1 ∧ (wX8_bag (X.2.1.2.2 ((x4 + 1)).toNatClampNeg) (X.2.1.2.2 ((x4 + 2)).toNatClampNeg) (X.2.1.2.2 ((x4 + 3)).toNatClampNeg) I2 (fun r5 I4 => (wX8_thrown I4 (fun r6 => ((r6 = r1 → ((¬ r1 = 0 → (∀ v7 : Int32, v7 = (x4 + 6) → (K v7 S I4 J3 (k + 1) (n + 6)))) ∧ (r1 = 0 → (vp_in 0 1 ∧ (((lg_cmp (J3 79 (0 : Int32).toNatClampNeg) ((r5).toInt64)) = 0 → (∀ v8 : Int32, v8 = (x4 + 6) → (K v8 S I4 J3 (k + 1) (n + 6)))) ∧ (¬ (lg_cmp (J3 79 (0 : Int32).toNatClampNeg) ((r5).toInt64)) = 0 → post 0)))))) ∧ (¬ r6 = r1 → post 0)))))))))))))) := h
  refine V_aload_n dL_law_708 rfl rfl ?_
  refine V_aload_n dL_law_709 rfl rfl ?_
  refine V_iload dL_law_710 rfl ?_
  refine V_iconst (v := 1) dL_law_712 (by decide) ?_
  refine V_iadd dL_law_713 ?_
  obtain ⟨hb, h⟩ := h
  refine V_sld dL_law_714 hScr hb ?_
  refine V_aload_n dL_law_715 rfl rfl ?_
  refine V_iload dL_law_716 rfl ?_
  refine V_iconst (v := 2) dL_law_718 (by decide) ?_
  refine V_iadd dL_law_719 ?_
  obtain ⟨hb, h⟩ := h
  refine V_sld dL_law_720 hScr hb ?_
  refine V_aload_n dL_law_721 rfl rfl ?_
  refine V_iload dL_law_722 rfl ?_
  refine V_iconst (v := 3) dL_law_724 (by decide) ?_
  refine V_iadd dL_law_725 ?_
  obtain ⟨hb, h⟩ := h
  refine V_sld dL_law_726 hScr hb ?_
  refine V_aload_n dL_law_727 rfl rfl ?_
  obtain ⟨hk9, hn9, h⟩ := h
  refine V_callSXi (st := []) [.ref 0, .int (X.2.1.2.2 ((x4 + 1)).toNatClampNeg), .int (X.2.1.2.2 ((x4 + 2)).toNatClampNeg), .int (X.2.1.2.2 ((x4 + 3)).toNatClampNeg), .ref 79] dL_law_728 ok_mL_bag (by decide) ml_RL_125 st_mL_bag (Nat.le_of_ble_eq_true rfl) (by decide) hk9 hn9 (s_mL_bag hS h) (fun r1 I2 J3 h => ?_)
  clear hk hn
  have hk := hk9
  have hn := hn9
  refine V_istore (lo2 := [(5, .int r1), (0, .ref 1000000), (1, .ref 0), (2, .ref 51), (3, .ref 79), (4, .int x4)]) dL_law_731 (by decide) rfl ?_
  refine V_aload_n dL_law_733 rfl rfl ?_
  refine V_aload_n dL_law_734 rfl rfl ?_
  refine V_iload dL_law_735 rfl ?_
  refine V_iconst (v := 1) dL_law_737 (by decide) ?_
  refine V_iadd dL_law_738 ?_
  obtain ⟨hb, h⟩ := h
  refine V_sld dL_law_739 hScr hb ?_
  refine V_aload_n dL_law_740 rfl rfl ?_
  refine V_iload dL_law_741 rfl ?_
  refine V_iconst (v := 2) dL_law_743 (by decide) ?_
  refine V_iadd dL_law_744 ?_
  obtain ⟨hb, h⟩ := h
  refine V_sld dL_law_745 hScr hb ?_
  refine V_aload_n dL_law_746 rfl rfl ?_
  refine V_iload dL_law_747 rfl ?_
  refine V_iconst (v := 3) dL_law_749 (by decide) ?_
  refine V_iadd dL_law_750 ?_
  obtain ⟨hb, h⟩ := h
  refine V_sld dL_law_751 hScr hb ?_
  refine V_callVi (st := []) [.int (X.2.1.2.2 ((x4 + 1)).toNatClampNeg), .int (X.2.1.2.2 ((x4 + 2)).toNatClampNeg), .int (X.2.1.2.2 ((x4 + 3)).toNatClampNeg)] dL_law_752 ok_mX8_bag rfl ml_RL_128 in_mX8_bag se_mX8_bag (hS.n 51 rfl) (hS.k 51 8 rfl) (by decide) rfl (Nat.le_of_ble_eq_true rfl) (by decide) hk hn (s_mX8_bag hS h) (fun r5 I4 J9 h => ?_)
  obtain ⟨rfl, h⟩ := h
  refine V_istore (lo2 := [(6, .int r5), (5, .int r1), (0, .ref 1000000), (1, .ref 0), (2, .ref 51), (3, .ref 79), (4, .int x4)]) dL_law_755 (by decide) rfl ?_
  refine V_aload_n dL_law_757 rfl rfl ?_
  refine V_callVi (st := []) [] dL_law_758 ok_mX8_thrown rfl ml_RL_100 in_mX8_thrown se_mX8_thrown (hS.n 51 rfl) (hS.k 51 8 rfl) (by decide) rfl (Nat.le_of_ble_eq_true rfl) (by decide) hk hn (s_mX8_thrown hS h) (fun r6 I9 J9 h => ?_)
  obtain ⟨rfl, rfl, h⟩ := h
  refine V_iload dL_law_761 rfl ?_
  refine V_icmp_eq 768 dL_law_763 rfl (fun hc => ?_) (fun hc => ?_)
  · replace h := h.1 hc
    refine V_iload dL_law_768 rfl ?_
    refine V_if_ne 785 dL_law_770 rfl (fun hc => ?_) (fun hc => ?_)
    · replace h := h.1 hc
      refine V_goto 1779 dL_law_785 rfl ?_
      obtain ⟨v7, e_v7⟩ : ∃ z : Int32, z = (x4 + 6) := ⟨_, rfl⟩
      replace h := h v7 e_v7
      refine V_iinc (lo2 := [(4, .int v7), (6, .int r5), (5, .int r1), (0, .ref 1000000), (1, .ref 0), (2, .ref 51), (3, .ref 79)]) 6 dL_law_1779 rfl (v := v7) (by rw [e_v7]; first | done | rfl) (by decide) rfl ?_
      refine V_goto 23 dL_law_1782 rfl ?_
      refine V_sub (lo2 := [(0, .ref 1000000), (1, .ref 0), (2, .ref 51), (3, .ref 79), (4, .int v7)]) [3, 4, 5, 6, 0] rfl ?_
      exact hK _ _ _ _ _ _ hA hScr hk hn h
    · replace h := h.2 hc
      refine V_aload_n dL_law_773 rfl rfl ?_
      refine V_iconst (v := 0) dL_law_774 (by decide) ?_
      obtain ⟨hb, h⟩ := h
      refine V_lald dL_law_775 (hS.n 79 rfl) (hS.k 79 10 rfl) (by rw [(hS.z 79 1 rfl)]; exact hb) ?_
      refine V_iload dL_law_776 rfl ?_
      refine V_i2l dL_law_778 ?_
      refine V_lcmp dL_law_779 ?_
      refine V_if_eq 785 dL_law_780 rfl (fun hc => ?_) (fun hc => ?_)
      · replace h := h.1 hc
        refine V_goto 1779 dL_law_785 rfl ?_
        obtain ⟨v8, e_v8⟩ : ∃ z : Int32, z = (x4 + 6) := ⟨_, rfl⟩
        replace h := h v8 e_v8
        refine V_iinc (lo2 := [(4, .int v8), (6, .int r5), (5, .int r1), (0, .ref 1000000), (1, .ref 0), (2, .ref 51), (3, .ref 79)]) 6 dL_law_1779 rfl (v := v8) (by rw [e_v8]; first | done | rfl) (by decide) rfl ?_
        refine V_goto 23 dL_law_1782 rfl ?_
        refine V_sub (lo2 := [(0, .ref 1000000), (1, .ref 0), (2, .ref 51), (3, .ref 79), (4, .int v8)]) [3, 4, 5, 6, 0] rfl ?_
        exact hK _ _ _ _ _ _ hA hScr hk hn h
      · replace h := h.2 hc
        refine V_iconst (v := 0) dL_law_783 (by decide) ?_
        exact V_zret dL_law_784 rfl (by decide) hk hn ⟨_, rfl, h⟩
  · replace h := h.2 hc
    refine V_iconst (v := 0) dL_law_766 (by decide) ?_
    exact V_zret dL_law_767 rfl (by decide) hk hn ⟨_, rfl, h⟩
def wL_c8 (X : QX) (K : Int32 → QS → QI → QJ → Nat → Nat → Prop) (post : Int32 → Prop) (x4 : Int32) (S : QS) (I : QI) (J : QJ) (k n : Nat) : Prop := (vp_in (x4 + 1) X.2.1.2.1 ∧ (k + 1 ≤ 601024 ∧ n + 6 ≤ 7293034 ∧ wL_rows (X.2.1.2.2 ((x4 + 1)).toNatClampNeg) I J (fun r1 I2 J3 => (vp_in (x4 + 1) X.2.1.2.1 ∧ (wX8_rows (X.2.1.2.2 ((x4 + 1)).toNatClampNeg) I2 J3 (fun r6 I4 J5 => (wX8_thrown I4 (fun r7 => ((r7 = r1 → ((¬ r1 = 0 → (∀ v8 : Int32, v8 = (x4 + 6) → (K v8 S I4 J5 (k + 1) (n + 6)))) ∧ (r1 = 0 → (vp_in 0 1 ∧ (((lg_cmp (J5 79 (0 : Int32).toNatClampNeg) ((r6).toInt64)) = 0 → (∀ v9 : Int32, v9 = (x4 + 6) → (K v9 S I4 J5 (k + 1) (n + 6)))) ∧ (¬ (lg_cmp (J5 79 (0 : Int32).toNatClampNeg) ((r6).toInt64)) = 0 → post 0)))))) ∧ (¬ r7 = r1 → post 0))))))))))
set_option maxRecDepth 100000 in
set_option maxHeartbeats 4000000 in
theorem swL_c8 {X : QX} {K : Int32 → QS → QI → QJ → Nat → Nat → Prop} {post : Int32 → Prop} (hK : ∀ (i : Int32) (S : QS) (I : QI) (J : QJ) (k n : Nat), Sa S → S.1 1000000 = X.2.1.1 → k ≤ 601024 → n ≤ 7293034 → K i S I J k n → V X mL_law 1000 601024 7293034 (fun o _ _ _ => ∃ r : Int32, o = .inl (some (.int r)) ∧ post r) 23 [(0, .ref 1000000), (1, .ref 0), (2, .ref 51), (3, .ref 79), (4, .int i)] [] S I J k n) {x4 : Int32} {S : QS} {I : QI} {J : QJ} {k n : Nat} (hA : Sa S) (hScr : S.1 1000000 = X.2.1.1) (hk : k ≤ 601024) (hn : n ≤ 7293034) (h : wL_c8 X K post x4 S I J k n) : V X mL_law 1000 601024 7293034 (fun o _ _ _ => ∃ r : Int32, o = .inl (some (.int r)) ∧ post r) 788 [(0, .ref 1000000), (1, .ref 0), (2, .ref 51), (3, .ref 79), (4, .int x4)] [] S I J k n := by
  have hS := hA.1
  replace h : (vp_in (x4 + 1) X.2.1.2.1 ∧ (k + 1 ≤ 601024 ∧ n + 6 ≤ 7293034 ∧ wL_rows (X.2.1.2.2 ((x4 + 1)).toNatClampNeg) I J (fun r1 I2 J3 => (vp_in (x4 + 1) X.2.1.2.1 ∧ (wX8_rows (X.2.1.2.2 ((x4 + 1)).toNatClampNeg) I2 J3 (fun r6 I4 J5 => (wX8_thrown I4 (fun r7 => ((r7 = r1 → ((¬ r1 = 0 → (∀ v8 : Int32, v8 = (x4 + 6) → (K v8 S I4 J5 (k + 1) (n + 6)))) ∧ (r1 = 0 → (vp_in 0 1 ∧ (((lg_cmp (J5 79 (0 : Int32).toNatClampNeg) ((r6).toInt64)) = 0 → (∀ v9 : Int32, v9 = (x4 + 6) → (K v9 S I4 J5 (k + 1) (n + 6)))) ∧ (¬ (lg_cmp (J5 79 (0 : Int32).toNatClampNeg) ((r6).toInt64)) = 0 → post 0)))))) ∧ (¬ r7 = r1 → post 0)))))))))) := h
  refine V_aload_n dL_law_788 rfl rfl ?_
  refine V_aload_n dL_law_789 rfl rfl ?_
  refine V_iload dL_law_790 rfl ?_
  refine V_iconst (v := 1) dL_law_792 (by decide) ?_
  refine V_iadd dL_law_793 ?_
  obtain ⟨hb, h⟩ := h
  refine V_sld dL_law_794 hScr hb ?_
  refine V_aload_n dL_law_795 rfl rfl ?_
  obtain ⟨hk9, hn9, h⟩ := h
  refine V_callSXi (st := []) [.ref 0, .int (X.2.1.2.2 ((x4 + 1)).toNatClampNeg), .ref 79] dL_law_796 ok_mL_rows (by decide) ml_RL_129 st_mL_rows (Nat.le_of_ble_eq_true rfl) (by decide) hk9 hn9 (s_mL_rows hS h) (fun r1 I2 J3 h => ?_)
  clear hk hn
  have hk := hk9
  have hn := hn9
  refine V_istore (lo2 := [(5, .int r1), (0, .ref 1000000), (1, .ref 0), (2, .ref 51), (3, .ref 79), (4, .int x4)]) dL_law_799 (by decide) rfl ?_
  refine V_aload_n dL_law_801 rfl rfl ?_
  refine V_aload_n dL_law_802 rfl rfl ?_
  refine V_iload dL_law_803 rfl ?_
  refine V_iconst (v := 1) dL_law_805 (by decide) ?_
  refine V_iadd dL_law_806 ?_
  obtain ⟨hb, h⟩ := h
  refine V_sld dL_law_807 hScr hb ?_
  refine V_callVi (st := []) [.int (X.2.1.2.2 ((x4 + 1)).toNatClampNeg)] dL_law_808 ok_mX8_rows rfl ml_RL_131 in_mX8_rows se_mX8_rows (hS.n 51 rfl) (hS.k 51 8 rfl) (by decide) rfl (Nat.le_of_ble_eq_true rfl) (by decide) hk hn (s_mX8_rows hS h) (fun r6 I4 J5 h => ?_)
  refine V_istore (lo2 := [(6, .int r6), (5, .int r1), (0, .ref 1000000), (1, .ref 0), (2, .ref 51), (3, .ref 79), (4, .int x4)]) dL_law_811 (by decide) rfl ?_
  refine V_aload_n dL_law_813 rfl rfl ?_
  refine V_callVi (st := []) [] dL_law_814 ok_mX8_thrown rfl ml_RL_100 in_mX8_thrown se_mX8_thrown (hS.n 51 rfl) (hS.k 51 8 rfl) (by decide) rfl (Nat.le_of_ble_eq_true rfl) (by decide) hk hn (s_mX8_thrown hS h) (fun r7 I9 J9 h => ?_)
  obtain ⟨rfl, rfl, h⟩ := h
  refine V_iload dL_law_817 rfl ?_
  refine V_icmp_eq 824 dL_law_819 rfl (fun hc => ?_) (fun hc => ?_)
  · replace h := h.1 hc
    refine V_iload dL_law_824 rfl ?_
    refine V_if_ne 841 dL_law_826 rfl (fun hc => ?_) (fun hc => ?_)
    · replace h := h.1 hc
      refine V_goto 1779 dL_law_841 rfl ?_
      obtain ⟨v8, e_v8⟩ : ∃ z : Int32, z = (x4 + 6) := ⟨_, rfl⟩
      replace h := h v8 e_v8
      refine V_iinc (lo2 := [(4, .int v8), (6, .int r6), (5, .int r1), (0, .ref 1000000), (1, .ref 0), (2, .ref 51), (3, .ref 79)]) 6 dL_law_1779 rfl (v := v8) (by rw [e_v8]; first | done | rfl) (by decide) rfl ?_
      refine V_goto 23 dL_law_1782 rfl ?_
      refine V_sub (lo2 := [(0, .ref 1000000), (1, .ref 0), (2, .ref 51), (3, .ref 79), (4, .int v8)]) [3, 4, 5, 6, 0] rfl ?_
      exact hK _ _ _ _ _ _ hA hScr hk hn h
    · replace h := h.2 hc
      refine V_aload_n dL_law_829 rfl rfl ?_
      refine V_iconst (v := 0) dL_law_830 (by decide) ?_
      obtain ⟨hb, h⟩ := h
      refine V_lald dL_law_831 (hS.n 79 rfl) (hS.k 79 10 rfl) (by rw [(hS.z 79 1 rfl)]; exact hb) ?_
      refine V_iload dL_law_832 rfl ?_
      refine V_i2l dL_law_834 ?_
      refine V_lcmp dL_law_835 ?_
      refine V_if_eq 841 dL_law_836 rfl (fun hc => ?_) (fun hc => ?_)
      · replace h := h.1 hc
        refine V_goto 1779 dL_law_841 rfl ?_
        obtain ⟨v9, e_v9⟩ : ∃ z : Int32, z = (x4 + 6) := ⟨_, rfl⟩
        replace h := h v9 e_v9
        refine V_iinc (lo2 := [(4, .int v9), (6, .int r6), (5, .int r1), (0, .ref 1000000), (1, .ref 0), (2, .ref 51), (3, .ref 79)]) 6 dL_law_1779 rfl (v := v9) (by rw [e_v9]; first | done | rfl) (by decide) rfl ?_
        refine V_goto 23 dL_law_1782 rfl ?_
        refine V_sub (lo2 := [(0, .ref 1000000), (1, .ref 0), (2, .ref 51), (3, .ref 79), (4, .int v9)]) [3, 4, 5, 6, 0] rfl ?_
        exact hK _ _ _ _ _ _ hA hScr hk hn h
      · replace h := h.2 hc
        refine V_iconst (v := 0) dL_law_839 (by decide) ?_
        exact V_zret dL_law_840 rfl (by decide) hk hn ⟨_, rfl, h⟩
  · replace h := h.2 hc
    refine V_iconst (v := 0) dL_law_822 (by decide) ?_
    exact V_zret dL_law_823 rfl (by decide) hk hn ⟨_, rfl, h⟩
def wL_c9 (X : QX) (K : Int32 → QS → QI → QJ → Nat → Nat → Prop) (post : Int32 → Prop) (x4 : Int32) (S : QS) (I : QI) (J : QJ) (k n : Nat) : Prop := (vp_in (x4 + 1) X.2.1.2.1 ∧ (vp_in (x4 + 2) X.2.1.2.1 ∧ (vp_in (x4 + 3) X.2.1.2.1 ∧ (k + 1 ≤ 601024 ∧ n + 6 ≤ 7293034 ∧ wL_cell (X.2.1.2.2 ((x4 + 1)).toNatClampNeg) (X.2.1.2.2 ((x4 + 2)).toNatClampNeg) (X.2.1.2.2 ((x4 + 3)).toNatClampNeg) I J (fun r1 I2 J3 => (vp_in (x4 + 1) X.2.1.2.1 ∧ (vp_in (x4 + 2) X.2.1.2.1 ∧ (vp_in (x4 + 3) X.2.1.2.1 ∧ (wX8_cell (X.2.1.2.2 ((x4 + 1)).toNatClampNeg) (X.2.1.2.2 ((x4 + 2)).toNatClampNeg) (X.2.1.2.2 ((x4 + 3)).toNatClampNeg) I2 J3 (fun r6 I4 J5 => (wX8_thrown I4 (fun r7 => ((r7 = r1 → ((¬ r1 = 0 → (∀ v8 : Int32, v8 = (x4 + 6) → (K v8 S I4 J5 (k + 1) (n + 6)))) ∧ (r1 = 0 → (vp_in 0 1 ∧ (((lg_cmp (J5 79 (0 : Int32).toNatClampNeg) ((r6).toInt64)) = 0 → (∀ v9 : Int32, v9 = (x4 + 6) → (K v9 S I4 J5 (k + 1) (n + 6)))) ∧ (¬ (lg_cmp (J5 79 (0 : Int32).toNatClampNeg) ((r6).toInt64)) = 0 → post 0)))))) ∧ (¬ r7 = r1 → post 0))))))))))))))
set_option maxRecDepth 100000 in
set_option maxHeartbeats 4000000 in
theorem swL_c9 {X : QX} {K : Int32 → QS → QI → QJ → Nat → Nat → Prop} {post : Int32 → Prop} (hK : ∀ (i : Int32) (S : QS) (I : QI) (J : QJ) (k n : Nat), Sa S → S.1 1000000 = X.2.1.1 → k ≤ 601024 → n ≤ 7293034 → K i S I J k n → V X mL_law 1000 601024 7293034 (fun o _ _ _ => ∃ r : Int32, o = .inl (some (.int r)) ∧ post r) 23 [(0, .ref 1000000), (1, .ref 0), (2, .ref 51), (3, .ref 79), (4, .int i)] [] S I J k n) {x4 : Int32} {S : QS} {I : QI} {J : QJ} {k n : Nat} (hA : Sa S) (hScr : S.1 1000000 = X.2.1.1) (hk : k ≤ 601024) (hn : n ≤ 7293034) (h : wL_c9 X K post x4 S I J k n) : V X mL_law 1000 601024 7293034 (fun o _ _ _ => ∃ r : Int32, o = .inl (some (.int r)) ∧ post r) 844 [(0, .ref 1000000), (1, .ref 0), (2, .ref 51), (3, .ref 79), (4, .int x4)] [] S I J k n := by
  have hS := hA.1
  replace h : (vp_in (x4 + 1) X.2.1.2.1 ∧ (vp_in (x4 + 2) X.2.1.2.1 ∧ (vp_in (x4 + 3) X.2.1.2.1 ∧ (k + 1 ≤ 601024 ∧ n + 6 ≤ 7293034 ∧ wL_cell (X.2.1.2.2 ((x4 + 1)).toNatClampNeg) (X.2.1.2.2 ((x4 + 2)).toNatClampNeg) (X.2.1.2.2 ((x4 + 3)).toNatClampNeg) I J (fun r1 I2 J3 => (vp_in (x4 + 1) X.2.1.2.1 ∧ (vp_in (x4 + 2) X.2.1.2.1 ∧ (vp_in (x4 + 3) X.2.1.2.1 ∧ (wX8_cell (X.2.1.2.2 ((x4 + 1)).toNatClampNeg) (X.2.1.2.2 ((x4 + 2)).toNatClampNeg) (X.2.1.2.2 ((x4 + 3)).toNatClampNeg) I2 J3 (fun r6 I4 J5 => (wX8_thrown I4 (fun r7 => ((r7 = r1 → ((¬ r1 = 0 → (∀ v8 : Int32, v8 = (x4 + 6) → (K v8 S I4 J5 (k + 1) (n + 6)))) ∧ (r1 = 0 → (vp_in 0 1 ∧ (((lg_cmp (J5 79 (0 : Int32).toNatClampNeg) ((r6).toInt64)) = 0 → (∀ v9 : Int32, v9 = (x4 + 6) → (K v9 S I4 J5 (k + 1) (n + 6)))) ∧ (¬ (lg_cmp (J5 79 (0 : Int32).toNatClampNeg) ((r6).toInt64)) = 0 → post 0)))))) ∧ (¬ r7 = r1 → post 0)))))))))))))) := h
  refine V_aload_n dL_law_844 rfl rfl ?_
  refine V_aload_n dL_law_845 rfl rfl ?_
  refine V_iload dL_law_846 rfl ?_
  refine V_iconst (v := 1) dL_law_848 (by decide) ?_
  refine V_iadd dL_law_849 ?_
  obtain ⟨hb, h⟩ := h
  refine V_sld dL_law_850 hScr hb ?_
  refine V_aload_n dL_law_851 rfl rfl ?_
  refine V_iload dL_law_852 rfl ?_
  refine V_iconst (v := 2) dL_law_854 (by decide) ?_
  refine V_iadd dL_law_855 ?_
  obtain ⟨hb, h⟩ := h
  refine V_sld dL_law_856 hScr hb ?_
  refine V_aload_n dL_law_857 rfl rfl ?_
  refine V_iload dL_law_858 rfl ?_
  refine V_iconst (v := 3) dL_law_860 (by decide) ?_
  refine V_iadd dL_law_861 ?_
  obtain ⟨hb, h⟩ := h
  refine V_sld dL_law_862 hScr hb ?_
  refine V_aload_n dL_law_863 rfl rfl ?_
  obtain ⟨hk9, hn9, h⟩ := h
  refine V_callSXi (st := []) [.ref 0, .int (X.2.1.2.2 ((x4 + 1)).toNatClampNeg), .int (X.2.1.2.2 ((x4 + 2)).toNatClampNeg), .int (X.2.1.2.2 ((x4 + 3)).toNatClampNeg), .ref 79] dL_law_864 ok_mL_cell (by decide) ml_RL_132 st_mL_cell (Nat.le_of_ble_eq_true rfl) (by decide) hk9 hn9 (s_mL_cell hS h) (fun r1 I2 J3 h => ?_)
  clear hk hn
  have hk := hk9
  have hn := hn9
  refine V_istore (lo2 := [(5, .int r1), (0, .ref 1000000), (1, .ref 0), (2, .ref 51), (3, .ref 79), (4, .int x4)]) dL_law_867 (by decide) rfl ?_
  refine V_aload_n dL_law_869 rfl rfl ?_
  refine V_aload_n dL_law_870 rfl rfl ?_
  refine V_iload dL_law_871 rfl ?_
  refine V_iconst (v := 1) dL_law_873 (by decide) ?_
  refine V_iadd dL_law_874 ?_
  obtain ⟨hb, h⟩ := h
  refine V_sld dL_law_875 hScr hb ?_
  refine V_aload_n dL_law_876 rfl rfl ?_
  refine V_iload dL_law_877 rfl ?_
  refine V_iconst (v := 2) dL_law_879 (by decide) ?_
  refine V_iadd dL_law_880 ?_
  obtain ⟨hb, h⟩ := h
  refine V_sld dL_law_881 hScr hb ?_
  refine V_aload_n dL_law_882 rfl rfl ?_
  refine V_iload dL_law_883 rfl ?_
  refine V_iconst (v := 3) dL_law_885 (by decide) ?_
  refine V_iadd dL_law_886 ?_
  obtain ⟨hb, h⟩ := h
  refine V_sld dL_law_887 hScr hb ?_
  refine V_callVi (st := []) [.int (X.2.1.2.2 ((x4 + 1)).toNatClampNeg), .int (X.2.1.2.2 ((x4 + 2)).toNatClampNeg), .int (X.2.1.2.2 ((x4 + 3)).toNatClampNeg)] dL_law_888 ok_mX8_cell rfl ml_RL_134 in_mX8_cell se_mX8_cell (hS.n 51 rfl) (hS.k 51 8 rfl) (by decide) rfl (Nat.le_of_ble_eq_true rfl) (by decide) hk hn (s_mX8_cell hS h) (fun r6 I4 J5 h => ?_)
  refine V_istore (lo2 := [(6, .int r6), (5, .int r1), (0, .ref 1000000), (1, .ref 0), (2, .ref 51), (3, .ref 79), (4, .int x4)]) dL_law_891 (by decide) rfl ?_
  refine V_aload_n dL_law_893 rfl rfl ?_
  refine V_callVi (st := []) [] dL_law_894 ok_mX8_thrown rfl ml_RL_100 in_mX8_thrown se_mX8_thrown (hS.n 51 rfl) (hS.k 51 8 rfl) (by decide) rfl (Nat.le_of_ble_eq_true rfl) (by decide) hk hn (s_mX8_thrown hS h) (fun r7 I9 J9 h => ?_)
  obtain ⟨rfl, rfl, h⟩ := h
  refine V_iload dL_law_897 rfl ?_
  refine V_icmp_eq 904 dL_law_899 rfl (fun hc => ?_) (fun hc => ?_)
  · replace h := h.1 hc
    refine V_iload dL_law_904 rfl ?_
    refine V_if_ne 921 dL_law_906 rfl (fun hc => ?_) (fun hc => ?_)
    · replace h := h.1 hc
      refine V_goto 1779 dL_law_921 rfl ?_
      obtain ⟨v8, e_v8⟩ : ∃ z : Int32, z = (x4 + 6) := ⟨_, rfl⟩
      replace h := h v8 e_v8
      refine V_iinc (lo2 := [(4, .int v8), (6, .int r6), (5, .int r1), (0, .ref 1000000), (1, .ref 0), (2, .ref 51), (3, .ref 79)]) 6 dL_law_1779 rfl (v := v8) (by rw [e_v8]; first | done | rfl) (by decide) rfl ?_
      refine V_goto 23 dL_law_1782 rfl ?_
      refine V_sub (lo2 := [(0, .ref 1000000), (1, .ref 0), (2, .ref 51), (3, .ref 79), (4, .int v8)]) [3, 4, 5, 6, 0] rfl ?_
      exact hK _ _ _ _ _ _ hA hScr hk hn h
    · replace h := h.2 hc
      refine V_aload_n dL_law_909 rfl rfl ?_
      refine V_iconst (v := 0) dL_law_910 (by decide) ?_
      obtain ⟨hb, h⟩ := h
      refine V_lald dL_law_911 (hS.n 79 rfl) (hS.k 79 10 rfl) (by rw [(hS.z 79 1 rfl)]; exact hb) ?_
      refine V_iload dL_law_912 rfl ?_
      refine V_i2l dL_law_914 ?_
      refine V_lcmp dL_law_915 ?_
      refine V_if_eq 921 dL_law_916 rfl (fun hc => ?_) (fun hc => ?_)
      · replace h := h.1 hc
        refine V_goto 1779 dL_law_921 rfl ?_
        obtain ⟨v9, e_v9⟩ : ∃ z : Int32, z = (x4 + 6) := ⟨_, rfl⟩
        replace h := h v9 e_v9
        refine V_iinc (lo2 := [(4, .int v9), (6, .int r6), (5, .int r1), (0, .ref 1000000), (1, .ref 0), (2, .ref 51), (3, .ref 79)]) 6 dL_law_1779 rfl (v := v9) (by rw [e_v9]; first | done | rfl) (by decide) rfl ?_
        refine V_goto 23 dL_law_1782 rfl ?_
        refine V_sub (lo2 := [(0, .ref 1000000), (1, .ref 0), (2, .ref 51), (3, .ref 79), (4, .int v9)]) [3, 4, 5, 6, 0] rfl ?_
        exact hK _ _ _ _ _ _ hA hScr hk hn h
      · replace h := h.2 hc
        refine V_iconst (v := 0) dL_law_919 (by decide) ?_
        exact V_zret dL_law_920 rfl (by decide) hk hn ⟨_, rfl, h⟩
  · replace h := h.2 hc
    refine V_iconst (v := 0) dL_law_902 (by decide) ?_
    exact V_zret dL_law_903 rfl (by decide) hk hn ⟨_, rfl, h⟩
def wL_c10 (X : QX) (K : Int32 → QS → QI → QJ → Nat → Nat → Prop) (post : Int32 → Prop) (x4 : Int32) (S : QS) (I : QI) (J : QJ) (k n : Nat) : Prop := (vp_in (x4 + 1) X.2.1.2.1 ∧ (vp_in (x4 + 2) X.2.1.2.1 ∧ (k + 1 ≤ 601024 ∧ n + 6 ≤ 7293034 ∧ wL_same (X.2.1.2.2 ((x4 + 1)).toNatClampNeg) (X.2.1.2.2 ((x4 + 2)).toNatClampNeg) I J (fun r1 I2 J3 => (vp_in (x4 + 1) X.2.1.2.1 ∧ (vp_in (x4 + 2) X.2.1.2.1 ∧ (wX8_same (X.2.1.2.2 ((x4 + 1)).toNatClampNeg) (X.2.1.2.2 ((x4 + 2)).toNatClampNeg) I2 J3 (fun r6 I4 J5 => (wX8_thrown I4 (fun r7 => ((r7 = r1 → ((¬ r1 = 0 → (∀ v8 : Int32, v8 = (x4 + 6) → (K v8 S I4 J5 (k + 1) (n + 6)))) ∧ (r1 = 0 → (vp_in 0 1 ∧ ((r6 = 0 → (((lg_cmp (J5 79 (0 : Int32).toNatClampNeg) (Int64.ofNat ((0 : Fin 2) : Nat))) = 0 → (∀ v9 : Int32, v9 = (x4 + 6) → (K v9 S I4 J5 (k + 1) (n + 6)))) ∧ (¬ (lg_cmp (J5 79 (0 : Int32).toNatClampNeg) (Int64.ofNat ((0 : Fin 2) : Nat))) = 0 → post 0))) ∧ (¬ r6 = 0 → (((lg_cmp (J5 79 (0 : Int32).toNatClampNeg) (Int64.ofNat ((1 : Fin 2) : Nat))) = 0 → (∀ v10 : Int32, v10 = (x4 + 6) → (K v10 S I4 J5 (k + 1) (n + 6)))) ∧ (¬ (lg_cmp (J5 79 (0 : Int32).toNatClampNeg) (Int64.ofNat ((1 : Fin 2) : Nat))) = 0 → post 0)))))))) ∧ (¬ r7 = r1 → post 0))))))))))))
set_option maxRecDepth 100000 in
set_option maxHeartbeats 4000000 in
theorem swL_c10 {X : QX} {K : Int32 → QS → QI → QJ → Nat → Nat → Prop} {post : Int32 → Prop} (hK : ∀ (i : Int32) (S : QS) (I : QI) (J : QJ) (k n : Nat), Sa S → S.1 1000000 = X.2.1.1 → k ≤ 601024 → n ≤ 7293034 → K i S I J k n → V X mL_law 1000 601024 7293034 (fun o _ _ _ => ∃ r : Int32, o = .inl (some (.int r)) ∧ post r) 23 [(0, .ref 1000000), (1, .ref 0), (2, .ref 51), (3, .ref 79), (4, .int i)] [] S I J k n) {x4 : Int32} {S : QS} {I : QI} {J : QJ} {k n : Nat} (hA : Sa S) (hScr : S.1 1000000 = X.2.1.1) (hk : k ≤ 601024) (hn : n ≤ 7293034) (h : wL_c10 X K post x4 S I J k n) : V X mL_law 1000 601024 7293034 (fun o _ _ _ => ∃ r : Int32, o = .inl (some (.int r)) ∧ post r) 924 [(0, .ref 1000000), (1, .ref 0), (2, .ref 51), (3, .ref 79), (4, .int x4)] [] S I J k n := by
  have hS := hA.1
  replace h : (vp_in (x4 + 1) X.2.1.2.1 ∧ (vp_in (x4 + 2) X.2.1.2.1 ∧ (k + 1 ≤ 601024 ∧ n + 6 ≤ 7293034 ∧ wL_same (X.2.1.2.2 ((x4 + 1)).toNatClampNeg) (X.2.1.2.2 ((x4 + 2)).toNatClampNeg) I J (fun r1 I2 J3 => (vp_in (x4 + 1) X.2.1.2.1 ∧ (vp_in (x4 + 2) X.2.1.2.1 ∧ (wX8_same (X.2.1.2.2 ((x4 + 1)).toNatClampNeg) (X.2.1.2.2 ((x4 + 2)).toNatClampNeg) I2 J3 (fun r6 I4 J5 => (wX8_thrown I4 (fun r7 => ((r7 = r1 → ((¬ r1 = 0 → (∀ v8 : Int32, v8 = (x4 + 6) → (K v8 S I4 J5 (k + 1) (n + 6)))) ∧ (r1 = 0 → (vp_in 0 1 ∧ ((r6 = 0 → (((lg_cmp (J5 79 (0 : Int32).toNatClampNeg) (Int64.ofNat ((0 : Fin 2) : Nat))) = 0 → (∀ v9 : Int32, v9 = (x4 + 6) → (K v9 S I4 J5 (k + 1) (n + 6)))) ∧ (¬ (lg_cmp (J5 79 (0 : Int32).toNatClampNeg) (Int64.ofNat ((0 : Fin 2) : Nat))) = 0 → post 0))) ∧ (¬ r6 = 0 → (((lg_cmp (J5 79 (0 : Int32).toNatClampNeg) (Int64.ofNat ((1 : Fin 2) : Nat))) = 0 → (∀ v10 : Int32, v10 = (x4 + 6) → (K v10 S I4 J5 (k + 1) (n + 6)))) ∧ (¬ (lg_cmp (J5 79 (0 : Int32).toNatClampNeg) (Int64.ofNat ((1 : Fin 2) : Nat))) = 0 → post 0)))))))) ∧ (¬ r7 = r1 → post 0)))))))))))) := h
  refine V_aload_n dL_law_924 rfl rfl ?_
  refine V_aload_n dL_law_925 rfl rfl ?_
  refine V_iload dL_law_926 rfl ?_
  refine V_iconst (v := 1) dL_law_928 (by decide) ?_
  refine V_iadd dL_law_929 ?_
  obtain ⟨hb, h⟩ := h
  refine V_sld dL_law_930 hScr hb ?_
  refine V_aload_n dL_law_931 rfl rfl ?_
  refine V_iload dL_law_932 rfl ?_
  refine V_iconst (v := 2) dL_law_934 (by decide) ?_
  refine V_iadd dL_law_935 ?_
  obtain ⟨hb, h⟩ := h
  refine V_sld dL_law_936 hScr hb ?_
  refine V_aload_n dL_law_937 rfl rfl ?_
  obtain ⟨hk9, hn9, h⟩ := h
  refine V_callSXi (st := []) [.ref 0, .int (X.2.1.2.2 ((x4 + 1)).toNatClampNeg), .int (X.2.1.2.2 ((x4 + 2)).toNatClampNeg), .ref 79] dL_law_938 ok_mL_same (by decide) ml_RL_135 st_mL_same (Nat.le_of_ble_eq_true rfl) (by decide) hk9 hn9 (s_mL_same hS h) (fun r1 I2 J3 h => ?_)
  clear hk hn
  have hk := hk9
  have hn := hn9
  refine V_istore (lo2 := [(5, .int r1), (0, .ref 1000000), (1, .ref 0), (2, .ref 51), (3, .ref 79), (4, .int x4)]) dL_law_941 (by decide) rfl ?_
  refine V_aload_n dL_law_943 rfl rfl ?_
  refine V_aload_n dL_law_944 rfl rfl ?_
  refine V_iload dL_law_945 rfl ?_
  refine V_iconst (v := 1) dL_law_947 (by decide) ?_
  refine V_iadd dL_law_948 ?_
  obtain ⟨hb, h⟩ := h
  refine V_sld dL_law_949 hScr hb ?_
  refine V_aload_n dL_law_950 rfl rfl ?_
  refine V_iload dL_law_951 rfl ?_
  refine V_iconst (v := 2) dL_law_953 (by decide) ?_
  refine V_iadd dL_law_954 ?_
  obtain ⟨hb, h⟩ := h
  refine V_sld dL_law_955 hScr hb ?_
  refine V_callVi (st := []) [.int (X.2.1.2.2 ((x4 + 1)).toNatClampNeg), .int (X.2.1.2.2 ((x4 + 2)).toNatClampNeg)] dL_law_956 ok_mX8_same rfl ml_RL_137 in_mX8_same se_mX8_same (hS.n 51 rfl) (hS.k 51 8 rfl) (by decide) rfl (Nat.le_of_ble_eq_true rfl) (by decide) hk hn (s_mX8_same hS h) (fun r6 I4 J5 h => ?_)
  refine V_istore (lo2 := [(6, .int r6), (5, .int r1), (0, .ref 1000000), (1, .ref 0), (2, .ref 51), (3, .ref 79), (4, .int x4)]) dL_law_959 (by decide) rfl ?_
  refine V_aload_n dL_law_961 rfl rfl ?_
  refine V_callVi (st := []) [] dL_law_962 ok_mX8_thrown rfl ml_RL_100 in_mX8_thrown se_mX8_thrown (hS.n 51 rfl) (hS.k 51 8 rfl) (by decide) rfl (Nat.le_of_ble_eq_true rfl) (by decide) hk hn (s_mX8_thrown hS h) (fun r7 I9 J9 h => ?_)
  obtain ⟨rfl, rfl, h⟩ := h
  refine V_iload dL_law_965 rfl ?_
  refine V_icmp_eq 972 dL_law_967 rfl (fun hc => ?_) (fun hc => ?_)
  · replace h := h.1 hc
    refine V_iload dL_law_972 rfl ?_
    refine V_if_ne 996 dL_law_974 rfl (fun hc => ?_) (fun hc => ?_)
    · replace h := h.1 hc
      refine V_goto 1779 dL_law_996 rfl ?_
      obtain ⟨v8, e_v8⟩ : ∃ z : Int32, z = (x4 + 6) := ⟨_, rfl⟩
      replace h := h v8 e_v8
      refine V_iinc (lo2 := [(4, .int v8), (6, .int r6), (5, .int r1), (0, .ref 1000000), (1, .ref 0), (2, .ref 51), (3, .ref 79)]) 6 dL_law_1779 rfl (v := v8) (by rw [e_v8]; first | done | rfl) (by decide) rfl ?_
      refine V_goto 23 dL_law_1782 rfl ?_
      refine V_sub (lo2 := [(0, .ref 1000000), (1, .ref 0), (2, .ref 51), (3, .ref 79), (4, .int v8)]) [3, 4, 5, 6, 0] rfl ?_
      exact hK _ _ _ _ _ _ hA hScr hk hn h
    · replace h := h.2 hc
      refine V_aload_n dL_law_977 rfl rfl ?_
      refine V_iconst (v := 0) dL_law_978 (by decide) ?_
      obtain ⟨hb, h⟩ := h
      refine V_lald dL_law_979 (hS.n 79 rfl) (hS.k 79 10 rfl) (by rw [(hS.z 79 1 rfl)]; exact hb) ?_
      refine V_iload dL_law_980 rfl ?_
      refine V_if_eq 989 dL_law_982 rfl (fun hc => ?_) (fun hc => ?_)
      · replace h := h.1 hc
        refine V_lconst dL_law_989 ?_
        refine V_lcmp dL_law_990 ?_
        refine V_if_eq 996 dL_law_991 rfl (fun hc => ?_) (fun hc => ?_)
        · replace h := h.1 hc
          refine V_goto 1779 dL_law_996 rfl ?_
          obtain ⟨v9, e_v9⟩ : ∃ z : Int32, z = (x4 + 6) := ⟨_, rfl⟩
          replace h := h v9 e_v9
          refine V_iinc (lo2 := [(4, .int v9), (6, .int r6), (5, .int r1), (0, .ref 1000000), (1, .ref 0), (2, .ref 51), (3, .ref 79)]) 6 dL_law_1779 rfl (v := v9) (by rw [e_v9]; first | done | rfl) (by decide) rfl ?_
          refine V_goto 23 dL_law_1782 rfl ?_
          refine V_sub (lo2 := [(0, .ref 1000000), (1, .ref 0), (2, .ref 51), (3, .ref 79), (4, .int v9)]) [3, 4, 5, 6, 0] rfl ?_
          exact hK _ _ _ _ _ _ hA hScr hk hn h
        · replace h := h.2 hc
          refine V_iconst (v := 0) dL_law_994 (by decide) ?_
          exact V_zret dL_law_995 rfl (by decide) hk hn ⟨_, rfl, h⟩
      · replace h := h.2 hc
        refine V_lconst dL_law_985 ?_
        refine V_goto 990 dL_law_986 rfl ?_
        refine V_lcmp dL_law_990 ?_
        refine V_if_eq 996 dL_law_991 rfl (fun hc => ?_) (fun hc => ?_)
        · replace h := h.1 hc
          refine V_goto 1779 dL_law_996 rfl ?_
          obtain ⟨v10, e_v10⟩ : ∃ z : Int32, z = (x4 + 6) := ⟨_, rfl⟩
          replace h := h v10 e_v10
          refine V_iinc (lo2 := [(4, .int v10), (6, .int r6), (5, .int r1), (0, .ref 1000000), (1, .ref 0), (2, .ref 51), (3, .ref 79)]) 6 dL_law_1779 rfl (v := v10) (by rw [e_v10]; first | done | rfl) (by decide) rfl ?_
          refine V_goto 23 dL_law_1782 rfl ?_
          refine V_sub (lo2 := [(0, .ref 1000000), (1, .ref 0), (2, .ref 51), (3, .ref 79), (4, .int v10)]) [3, 4, 5, 6, 0] rfl ?_
          exact hK _ _ _ _ _ _ hA hScr hk hn h
        · replace h := h.2 hc
          refine V_iconst (v := 0) dL_law_994 (by decide) ?_
          exact V_zret dL_law_995 rfl (by decide) hk hn ⟨_, rfl, h⟩
  · replace h := h.2 hc
    refine V_iconst (v := 0) dL_law_970 (by decide) ?_
    exact V_zret dL_law_971 rfl (by decide) hk hn ⟨_, rfl, h⟩
def wL_c11 (X : QX) (K : Int32 → QS → QI → QJ → Nat → Nat → Prop) (post : Int32 → Prop) (x4 : Int32) (S : QS) (I : QI) (J : QJ) (k n : Nat) : Prop := (vp_in (x4 + 1) X.2.1.2.1 ∧ (k + 1 ≤ 601024 ∧ n + 6 ≤ 7293034 ∧ wL_steps (X.2.1.2.2 ((x4 + 1)).toNatClampNeg) I J (fun r1 I2 J3 => (vp_in (x4 + 1) X.2.1.2.1 ∧ (wX8_steps (X.2.1.2.2 ((x4 + 1)).toNatClampNeg) I2 J3 (fun r6 I4 J5 => (wX8_thrown I4 (fun r7 => ((r7 = r1 → ((¬ r1 = 0 → (∀ v8 : Int32, v8 = (x4 + 6) → (K v8 S I4 J5 (k + 1) (n + 6)))) ∧ (r1 = 0 → (vp_in 0 1 ∧ (((lg_cmp (J5 79 (0 : Int32).toNatClampNeg) ((r6).toInt64)) = 0 → (∀ v9 : Int32, v9 = (x4 + 6) → (K v9 S I4 J5 (k + 1) (n + 6)))) ∧ (¬ (lg_cmp (J5 79 (0 : Int32).toNatClampNeg) ((r6).toInt64)) = 0 → post 0)))))) ∧ (¬ r7 = r1 → post 0))))))))))
set_option maxRecDepth 100000 in
set_option maxHeartbeats 4000000 in
theorem swL_c11 {X : QX} {K : Int32 → QS → QI → QJ → Nat → Nat → Prop} {post : Int32 → Prop} (hK : ∀ (i : Int32) (S : QS) (I : QI) (J : QJ) (k n : Nat), Sa S → S.1 1000000 = X.2.1.1 → k ≤ 601024 → n ≤ 7293034 → K i S I J k n → V X mL_law 1000 601024 7293034 (fun o _ _ _ => ∃ r : Int32, o = .inl (some (.int r)) ∧ post r) 23 [(0, .ref 1000000), (1, .ref 0), (2, .ref 51), (3, .ref 79), (4, .int i)] [] S I J k n) {x4 : Int32} {S : QS} {I : QI} {J : QJ} {k n : Nat} (hA : Sa S) (hScr : S.1 1000000 = X.2.1.1) (hk : k ≤ 601024) (hn : n ≤ 7293034) (h : wL_c11 X K post x4 S I J k n) : V X mL_law 1000 601024 7293034 (fun o _ _ _ => ∃ r : Int32, o = .inl (some (.int r)) ∧ post r) 999 [(0, .ref 1000000), (1, .ref 0), (2, .ref 51), (3, .ref 79), (4, .int x4)] [] S I J k n := by
  have hS := hA.1
  replace h : (vp_in (x4 + 1) X.2.1.2.1 ∧ (k + 1 ≤ 601024 ∧ n + 6 ≤ 7293034 ∧ wL_steps (X.2.1.2.2 ((x4 + 1)).toNatClampNeg) I J (fun r1 I2 J3 => (vp_in (x4 + 1) X.2.1.2.1 ∧ (wX8_steps (X.2.1.2.2 ((x4 + 1)).toNatClampNeg) I2 J3 (fun r6 I4 J5 => (wX8_thrown I4 (fun r7 => ((r7 = r1 → ((¬ r1 = 0 → (∀ v8 : Int32, v8 = (x4 + 6) → (K v8 S I4 J5 (k + 1) (n + 6)))) ∧ (r1 = 0 → (vp_in 0 1 ∧ (((lg_cmp (J5 79 (0 : Int32).toNatClampNeg) ((r6).toInt64)) = 0 → (∀ v9 : Int32, v9 = (x4 + 6) → (K v9 S I4 J5 (k + 1) (n + 6)))) ∧ (¬ (lg_cmp (J5 79 (0 : Int32).toNatClampNeg) ((r6).toInt64)) = 0 → post 0)))))) ∧ (¬ r7 = r1 → post 0)))))))))) := h
  refine V_aload_n dL_law_999 rfl rfl ?_
  refine V_aload_n dL_law_1000 rfl rfl ?_
  refine V_iload dL_law_1001 rfl ?_
  refine V_iconst (v := 1) dL_law_1003 (by decide) ?_
  refine V_iadd dL_law_1004 ?_
  obtain ⟨hb, h⟩ := h
  refine V_sld dL_law_1005 hScr hb ?_
  refine V_aload_n dL_law_1006 rfl rfl ?_
  obtain ⟨hk9, hn9, h⟩ := h
  refine V_callSXi (st := []) [.ref 0, .int (X.2.1.2.2 ((x4 + 1)).toNatClampNeg), .ref 79] dL_law_1007 ok_mL_steps (by decide) ml_RL_138 st_mL_steps (Nat.le_of_ble_eq_true rfl) (by decide) hk9 hn9 (s_mL_steps hS h) (fun r1 I2 J3 h => ?_)
  clear hk hn
  have hk := hk9
  have hn := hn9
  refine V_istore (lo2 := [(5, .int r1), (0, .ref 1000000), (1, .ref 0), (2, .ref 51), (3, .ref 79), (4, .int x4)]) dL_law_1010 (by decide) rfl ?_
  refine V_aload_n dL_law_1012 rfl rfl ?_
  refine V_aload_n dL_law_1013 rfl rfl ?_
  refine V_iload dL_law_1014 rfl ?_
  refine V_iconst (v := 1) dL_law_1016 (by decide) ?_
  refine V_iadd dL_law_1017 ?_
  obtain ⟨hb, h⟩ := h
  refine V_sld dL_law_1018 hScr hb ?_
  refine V_callVi (st := []) [.int (X.2.1.2.2 ((x4 + 1)).toNatClampNeg)] dL_law_1019 ok_mX8_steps rfl ml_RL_140 in_mX8_steps se_mX8_steps (hS.n 51 rfl) (hS.k 51 8 rfl) (by decide) rfl (Nat.le_of_ble_eq_true rfl) (by decide) hk hn (s_mX8_steps hS h) (fun r6 I4 J5 h => ?_)
  refine V_istore (lo2 := [(6, .int r6), (5, .int r1), (0, .ref 1000000), (1, .ref 0), (2, .ref 51), (3, .ref 79), (4, .int x4)]) dL_law_1022 (by decide) rfl ?_
  refine V_aload_n dL_law_1024 rfl rfl ?_
  refine V_callVi (st := []) [] dL_law_1025 ok_mX8_thrown rfl ml_RL_100 in_mX8_thrown se_mX8_thrown (hS.n 51 rfl) (hS.k 51 8 rfl) (by decide) rfl (Nat.le_of_ble_eq_true rfl) (by decide) hk hn (s_mX8_thrown hS h) (fun r7 I9 J9 h => ?_)
  obtain ⟨rfl, rfl, h⟩ := h
  refine V_iload dL_law_1028 rfl ?_
  refine V_icmp_eq 1035 dL_law_1030 rfl (fun hc => ?_) (fun hc => ?_)
  · replace h := h.1 hc
    refine V_iload dL_law_1035 rfl ?_
    refine V_if_ne 1052 dL_law_1037 rfl (fun hc => ?_) (fun hc => ?_)
    · replace h := h.1 hc
      refine V_goto 1779 dL_law_1052 rfl ?_
      obtain ⟨v8, e_v8⟩ : ∃ z : Int32, z = (x4 + 6) := ⟨_, rfl⟩
      replace h := h v8 e_v8
      refine V_iinc (lo2 := [(4, .int v8), (6, .int r6), (5, .int r1), (0, .ref 1000000), (1, .ref 0), (2, .ref 51), (3, .ref 79)]) 6 dL_law_1779 rfl (v := v8) (by rw [e_v8]; first | done | rfl) (by decide) rfl ?_
      refine V_goto 23 dL_law_1782 rfl ?_
      refine V_sub (lo2 := [(0, .ref 1000000), (1, .ref 0), (2, .ref 51), (3, .ref 79), (4, .int v8)]) [3, 4, 5, 6, 0] rfl ?_
      exact hK _ _ _ _ _ _ hA hScr hk hn h
    · replace h := h.2 hc
      refine V_aload_n dL_law_1040 rfl rfl ?_
      refine V_iconst (v := 0) dL_law_1041 (by decide) ?_
      obtain ⟨hb, h⟩ := h
      refine V_lald dL_law_1042 (hS.n 79 rfl) (hS.k 79 10 rfl) (by rw [(hS.z 79 1 rfl)]; exact hb) ?_
      refine V_iload dL_law_1043 rfl ?_
      refine V_i2l dL_law_1045 ?_
      refine V_lcmp dL_law_1046 ?_
      refine V_if_eq 1052 dL_law_1047 rfl (fun hc => ?_) (fun hc => ?_)
      · replace h := h.1 hc
        refine V_goto 1779 dL_law_1052 rfl ?_
        obtain ⟨v9, e_v9⟩ : ∃ z : Int32, z = (x4 + 6) := ⟨_, rfl⟩
        replace h := h v9 e_v9
        refine V_iinc (lo2 := [(4, .int v9), (6, .int r6), (5, .int r1), (0, .ref 1000000), (1, .ref 0), (2, .ref 51), (3, .ref 79)]) 6 dL_law_1779 rfl (v := v9) (by rw [e_v9]; first | done | rfl) (by decide) rfl ?_
        refine V_goto 23 dL_law_1782 rfl ?_
        refine V_sub (lo2 := [(0, .ref 1000000), (1, .ref 0), (2, .ref 51), (3, .ref 79), (4, .int v9)]) [3, 4, 5, 6, 0] rfl ?_
        exact hK _ _ _ _ _ _ hA hScr hk hn h
      · replace h := h.2 hc
        refine V_iconst (v := 0) dL_law_1050 (by decide) ?_
        exact V_zret dL_law_1051 rfl (by decide) hk hn ⟨_, rfl, h⟩
  · replace h := h.2 hc
    refine V_iconst (v := 0) dL_law_1033 (by decide) ?_
    exact V_zret dL_law_1034 rfl (by decide) hk hn ⟨_, rfl, h⟩
def wL_c12 (X : QX) (K : Int32 → QS → QI → QJ → Nat → Nat → Prop) (post : Int32 → Prop) (x4 : Int32) (S : QS) (I : QI) (J : QJ) (k n : Nat) : Prop := (vp_in (x4 + 1) X.2.1.2.1 ∧ (k + 1 ≤ 601024 ∧ n + 6 ≤ 7293034 ∧ wL_budget (X.2.1.2.2 ((x4 + 1)).toNatClampNeg) I J (fun r1 I2 J3 => (vp_in (x4 + 1) X.2.1.2.1 ∧ (wX8_budget (X.2.1.2.2 ((x4 + 1)).toNatClampNeg) I2 (fun r5 I4 => (wX8_thrown I4 (fun r6 => ((r6 = r1 → ((¬ r1 = 0 → (∀ v7 : Int32, v7 = (x4 + 6) → (K v7 S I4 J3 (k + 1) (n + 6)))) ∧ (r1 = 0 → (vp_in 0 1 ∧ (((lg_cmp (J3 79 (0 : Int32).toNatClampNeg) ((r5).toInt64)) = 0 → (∀ v8 : Int32, v8 = (x4 + 6) → (K v8 S I4 J3 (k + 1) (n + 6)))) ∧ (¬ (lg_cmp (J3 79 (0 : Int32).toNatClampNeg) ((r5).toInt64)) = 0 → post 0)))))) ∧ (¬ r6 = r1 → post 0))))))))))
set_option maxRecDepth 100000 in
set_option maxHeartbeats 4000000 in
theorem swL_c12 {X : QX} {K : Int32 → QS → QI → QJ → Nat → Nat → Prop} {post : Int32 → Prop} (hK : ∀ (i : Int32) (S : QS) (I : QI) (J : QJ) (k n : Nat), Sa S → S.1 1000000 = X.2.1.1 → k ≤ 601024 → n ≤ 7293034 → K i S I J k n → V X mL_law 1000 601024 7293034 (fun o _ _ _ => ∃ r : Int32, o = .inl (some (.int r)) ∧ post r) 23 [(0, .ref 1000000), (1, .ref 0), (2, .ref 51), (3, .ref 79), (4, .int i)] [] S I J k n) {x4 : Int32} {S : QS} {I : QI} {J : QJ} {k n : Nat} (hA : Sa S) (hScr : S.1 1000000 = X.2.1.1) (hk : k ≤ 601024) (hn : n ≤ 7293034) (h : wL_c12 X K post x4 S I J k n) : V X mL_law 1000 601024 7293034 (fun o _ _ _ => ∃ r : Int32, o = .inl (some (.int r)) ∧ post r) 1055 [(0, .ref 1000000), (1, .ref 0), (2, .ref 51), (3, .ref 79), (4, .int x4)] [] S I J k n := by
  have hS := hA.1
  replace h : (vp_in (x4 + 1) X.2.1.2.1 ∧ (k + 1 ≤ 601024 ∧ n + 6 ≤ 7293034 ∧ wL_budget (X.2.1.2.2 ((x4 + 1)).toNatClampNeg) I J (fun r1 I2 J3 => (vp_in (x4 + 1) X.2.1.2.1 ∧ (wX8_budget (X.2.1.2.2 ((x4 + 1)).toNatClampNeg) I2 (fun r5 I4 => (wX8_thrown I4 (fun r6 => ((r6 = r1 → ((¬ r1 = 0 → (∀ v7 : Int32, v7 = (x4 + 6) → (K v7 S I4 J3 (k + 1) (n + 6)))) ∧ (r1 = 0 → (vp_in 0 1 ∧ (((lg_cmp (J3 79 (0 : Int32).toNatClampNeg) ((r5).toInt64)) = 0 → (∀ v8 : Int32, v8 = (x4 + 6) → (K v8 S I4 J3 (k + 1) (n + 6)))) ∧ (¬ (lg_cmp (J3 79 (0 : Int32).toNatClampNeg) ((r5).toInt64)) = 0 → post 0)))))) ∧ (¬ r6 = r1 → post 0)))))))))) := h
  refine V_aload_n dL_law_1055 rfl rfl ?_
  refine V_aload_n dL_law_1056 rfl rfl ?_
  refine V_iload dL_law_1057 rfl ?_
  refine V_iconst (v := 1) dL_law_1059 (by decide) ?_
  refine V_iadd dL_law_1060 ?_
  obtain ⟨hb, h⟩ := h
  refine V_sld dL_law_1061 hScr hb ?_
  refine V_aload_n dL_law_1062 rfl rfl ?_
  obtain ⟨hk9, hn9, h⟩ := h
  refine V_callSXi (st := []) [.ref 0, .int (X.2.1.2.2 ((x4 + 1)).toNatClampNeg), .ref 79] dL_law_1063 ok_mL_budget (by decide) ml_RL_141 st_mL_budget (Nat.le_of_ble_eq_true rfl) (by decide) hk9 hn9 (s_mL_budget hS h) (fun r1 I2 J3 h => ?_)
  clear hk hn
  have hk := hk9
  have hn := hn9
  refine V_istore (lo2 := [(5, .int r1), (0, .ref 1000000), (1, .ref 0), (2, .ref 51), (3, .ref 79), (4, .int x4)]) dL_law_1066 (by decide) rfl ?_
  refine V_aload_n dL_law_1068 rfl rfl ?_
  refine V_aload_n dL_law_1069 rfl rfl ?_
  refine V_iload dL_law_1070 rfl ?_
  refine V_iconst (v := 1) dL_law_1072 (by decide) ?_
  refine V_iadd dL_law_1073 ?_
  obtain ⟨hb, h⟩ := h
  refine V_sld dL_law_1074 hScr hb ?_
  refine V_callVi (st := []) [.int (X.2.1.2.2 ((x4 + 1)).toNatClampNeg)] dL_law_1075 ok_mX8_budget rfl ml_RL_143 in_mX8_budget se_mX8_budget (hS.n 51 rfl) (hS.k 51 8 rfl) (by decide) rfl (Nat.le_of_ble_eq_true rfl) (by decide) hk hn (s_mX8_budget hS h) (fun r5 I4 J9 h => ?_)
  obtain ⟨rfl, h⟩ := h
  refine V_istore (lo2 := [(6, .int r5), (5, .int r1), (0, .ref 1000000), (1, .ref 0), (2, .ref 51), (3, .ref 79), (4, .int x4)]) dL_law_1078 (by decide) rfl ?_
  refine V_aload_n dL_law_1080 rfl rfl ?_
  refine V_callVi (st := []) [] dL_law_1081 ok_mX8_thrown rfl ml_RL_100 in_mX8_thrown se_mX8_thrown (hS.n 51 rfl) (hS.k 51 8 rfl) (by decide) rfl (Nat.le_of_ble_eq_true rfl) (by decide) hk hn (s_mX8_thrown hS h) (fun r6 I9 J9 h => ?_)
  obtain ⟨rfl, rfl, h⟩ := h
  refine V_iload dL_law_1084 rfl ?_
  refine V_icmp_eq 1091 dL_law_1086 rfl (fun hc => ?_) (fun hc => ?_)
  · replace h := h.1 hc
    refine V_iload dL_law_1091 rfl ?_
    refine V_if_ne 1108 dL_law_1093 rfl (fun hc => ?_) (fun hc => ?_)
    · replace h := h.1 hc
      refine V_goto 1779 dL_law_1108 rfl ?_
      obtain ⟨v7, e_v7⟩ : ∃ z : Int32, z = (x4 + 6) := ⟨_, rfl⟩
      replace h := h v7 e_v7
      refine V_iinc (lo2 := [(4, .int v7), (6, .int r5), (5, .int r1), (0, .ref 1000000), (1, .ref 0), (2, .ref 51), (3, .ref 79)]) 6 dL_law_1779 rfl (v := v7) (by rw [e_v7]; first | done | rfl) (by decide) rfl ?_
      refine V_goto 23 dL_law_1782 rfl ?_
      refine V_sub (lo2 := [(0, .ref 1000000), (1, .ref 0), (2, .ref 51), (3, .ref 79), (4, .int v7)]) [3, 4, 5, 6, 0] rfl ?_
      exact hK _ _ _ _ _ _ hA hScr hk hn h
    · replace h := h.2 hc
      refine V_aload_n dL_law_1096 rfl rfl ?_
      refine V_iconst (v := 0) dL_law_1097 (by decide) ?_
      obtain ⟨hb, h⟩ := h
      refine V_lald dL_law_1098 (hS.n 79 rfl) (hS.k 79 10 rfl) (by rw [(hS.z 79 1 rfl)]; exact hb) ?_
      refine V_iload dL_law_1099 rfl ?_
      refine V_i2l dL_law_1101 ?_
      refine V_lcmp dL_law_1102 ?_
      refine V_if_eq 1108 dL_law_1103 rfl (fun hc => ?_) (fun hc => ?_)
      · replace h := h.1 hc
        refine V_goto 1779 dL_law_1108 rfl ?_
        obtain ⟨v8, e_v8⟩ : ∃ z : Int32, z = (x4 + 6) := ⟨_, rfl⟩
        replace h := h v8 e_v8
        refine V_iinc (lo2 := [(4, .int v8), (6, .int r5), (5, .int r1), (0, .ref 1000000), (1, .ref 0), (2, .ref 51), (3, .ref 79)]) 6 dL_law_1779 rfl (v := v8) (by rw [e_v8]; first | done | rfl) (by decide) rfl ?_
        refine V_goto 23 dL_law_1782 rfl ?_
        refine V_sub (lo2 := [(0, .ref 1000000), (1, .ref 0), (2, .ref 51), (3, .ref 79), (4, .int v8)]) [3, 4, 5, 6, 0] rfl ?_
        exact hK _ _ _ _ _ _ hA hScr hk hn h
      · replace h := h.2 hc
        refine V_iconst (v := 0) dL_law_1106 (by decide) ?_
        exact V_zret dL_law_1107 rfl (by decide) hk hn ⟨_, rfl, h⟩
  · replace h := h.2 hc
    refine V_iconst (v := 0) dL_law_1089 (by decide) ?_
    exact V_zret dL_law_1090 rfl (by decide) hk hn ⟨_, rfl, h⟩
def wL_c13 (X : QX) (K : Int32 → QS → QI → QJ → Nat → Nat → Prop) (post : Int32 → Prop) (x4 : Int32) (S : QS) (I : QI) (J : QJ) (k n : Nat) : Prop := (vp_in (x4 + 1) X.2.1.2.1 ∧ (k + 1 ≤ 601024 ∧ n + 6 ≤ 7293034 ∧ wL_rewrite (X.2.1.2.2 ((x4 + 1)).toNatClampNeg) I J (fun r1 I2 J3 => (vp_in (x4 + 1) X.2.1.2.1 ∧ (∃ c6 s6 : Nat, k + 1 + c6 ≤ 601024 ∧ n + 6 + s6 ≤ 7293034 ∧ wX8_rewrite (X.2.1.2.2 ((x4 + 1)).toNatClampNeg) S I2 c6 s6 (fun r4 S5 I6 => (wX8_thrown I6 (fun r7 => ((r7 = r1 → ((¬ r1 = 0 → (∀ v8 : Int32, v8 = (x4 + 6) → (K v8 S5 I6 J3 (k + 1 + c6) (n + 6 + s6)))) ∧ (r1 = 0 → (vp_in 0 1 ∧ (((lg_cmp (J3 79 (0 : Int32).toNatClampNeg) ((r4).toInt64)) = 0 → (∀ v9 : Int32, v9 = (x4 + 6) → (K v9 S5 I6 J3 (k + 1 + c6) (n + 6 + s6)))) ∧ (¬ (lg_cmp (J3 79 (0 : Int32).toNatClampNeg) ((r4).toInt64)) = 0 → post 0)))))) ∧ (¬ r7 = r1 → post 0))))))))))
set_option maxRecDepth 100000 in
set_option maxHeartbeats 4000000 in
theorem swL_c13 {X : QX} {K : Int32 → QS → QI → QJ → Nat → Nat → Prop} {post : Int32 → Prop} (hK : ∀ (i : Int32) (S : QS) (I : QI) (J : QJ) (k n : Nat), Sa S → S.1 1000000 = X.2.1.1 → k ≤ 601024 → n ≤ 7293034 → K i S I J k n → V X mL_law 1000 601024 7293034 (fun o _ _ _ => ∃ r : Int32, o = .inl (some (.int r)) ∧ post r) 23 [(0, .ref 1000000), (1, .ref 0), (2, .ref 51), (3, .ref 79), (4, .int i)] [] S I J k n) {x4 : Int32} {S : QS} {I : QI} {J : QJ} {k n : Nat} (hA : Sa S) (hScr : S.1 1000000 = X.2.1.1) (hk : k ≤ 601024) (hn : n ≤ 7293034) (h : wL_c13 X K post x4 S I J k n) : V X mL_law 1000 601024 7293034 (fun o _ _ _ => ∃ r : Int32, o = .inl (some (.int r)) ∧ post r) 1111 [(0, .ref 1000000), (1, .ref 0), (2, .ref 51), (3, .ref 79), (4, .int x4)] [] S I J k n := by
  have hS := hA.1
  replace h : (vp_in (x4 + 1) X.2.1.2.1 ∧ (k + 1 ≤ 601024 ∧ n + 6 ≤ 7293034 ∧ wL_rewrite (X.2.1.2.2 ((x4 + 1)).toNatClampNeg) I J (fun r1 I2 J3 => (vp_in (x4 + 1) X.2.1.2.1 ∧ (∃ c6 s6 : Nat, k + 1 + c6 ≤ 601024 ∧ n + 6 + s6 ≤ 7293034 ∧ wX8_rewrite (X.2.1.2.2 ((x4 + 1)).toNatClampNeg) S I2 c6 s6 (fun r4 S5 I6 => (wX8_thrown I6 (fun r7 => ((r7 = r1 → ((¬ r1 = 0 → (∀ v8 : Int32, v8 = (x4 + 6) → (K v8 S5 I6 J3 (k + 1 + c6) (n + 6 + s6)))) ∧ (r1 = 0 → (vp_in 0 1 ∧ (((lg_cmp (J3 79 (0 : Int32).toNatClampNeg) ((r4).toInt64)) = 0 → (∀ v9 : Int32, v9 = (x4 + 6) → (K v9 S5 I6 J3 (k + 1 + c6) (n + 6 + s6)))) ∧ (¬ (lg_cmp (J3 79 (0 : Int32).toNatClampNeg) ((r4).toInt64)) = 0 → post 0)))))) ∧ (¬ r7 = r1 → post 0)))))))))) := h
  refine V_aload_n dL_law_1111 rfl rfl ?_
  refine V_aload_n dL_law_1112 rfl rfl ?_
  refine V_iload dL_law_1113 rfl ?_
  refine V_iconst (v := 1) dL_law_1115 (by decide) ?_
  refine V_iadd dL_law_1116 ?_
  obtain ⟨hb, h⟩ := h
  refine V_sld dL_law_1117 hScr hb ?_
  refine V_aload_n dL_law_1118 rfl rfl ?_
  obtain ⟨hk9, hn9, h⟩ := h
  refine V_callSXi (st := []) [.ref 0, .int (X.2.1.2.2 ((x4 + 1)).toNatClampNeg), .ref 79] dL_law_1119 ok_mL_rewrite (by decide) ml_RL_144 st_mL_rewrite (Nat.le_of_ble_eq_true rfl) (by decide) hk9 hn9 (s_mL_rewrite hS h) (fun r1 I2 J3 h => ?_)
  clear hk hn
  have hk := hk9
  have hn := hn9
  refine V_istore (lo2 := [(5, .int r1), (0, .ref 1000000), (1, .ref 0), (2, .ref 51), (3, .ref 79), (4, .int x4)]) dL_law_1122 (by decide) rfl ?_
  refine V_aload_n dL_law_1124 rfl rfl ?_
  refine V_aload_n dL_law_1125 rfl rfl ?_
  refine V_iload dL_law_1126 rfl ?_
  refine V_iconst (v := 1) dL_law_1128 (by decide) ?_
  refine V_iadd dL_law_1129 ?_
  obtain ⟨hb, h⟩ := h
  refine V_sld dL_law_1130 hScr hb ?_
  obtain ⟨c6, s6, hk9, hn9, h⟩ := h
  refine V_callVa (st := []) [.int (X.2.1.2.2 ((x4 + 1)).toNatClampNeg)] dL_law_1131 ok_mX8_rewrite rfl ml_RL_146 in_mX8_rewrite se_mX8_rewrite (hS.n 51 rfl) (hS.k 51 8 rfl) (by decide) rfl (Nat.le_of_ble_eq_true rfl) (by decide) hk9 hn9 (q_vb80 hS rfl) (q_vb80 hS rfl) (s_mX8_rewrite hA h) (fun r4 S5 I6 hA9 hE9 h => ?_)
  have hScr9 := (hE9.2.2 1000000 (by decide)).trans hScr
  clear hk hn hA hS hScr
  have hA := hA9
  have hS := hA.1
  have hScr := hScr9
  have hk := hk9
  have hn := hn9
  refine V_istore (lo2 := [(6, .int r4), (5, .int r1), (0, .ref 1000000), (1, .ref 0), (2, .ref 51), (3, .ref 79), (4, .int x4)]) dL_law_1134 (by decide) rfl ?_
  refine V_aload_n dL_law_1136 rfl rfl ?_
  refine V_callVi (st := []) [] dL_law_1137 ok_mX8_thrown rfl ml_RL_100 in_mX8_thrown se_mX8_thrown (hS.n 51 rfl) (hS.k 51 8 rfl) (by decide) rfl (Nat.le_of_ble_eq_true rfl) (by decide) hk hn (s_mX8_thrown hS h) (fun r7 I9 J9 h => ?_)
  obtain ⟨rfl, rfl, h⟩ := h
  refine V_iload dL_law_1140 rfl ?_
  refine V_icmp_eq 1147 dL_law_1142 rfl (fun hc => ?_) (fun hc => ?_)
  · replace h := h.1 hc
    refine V_iload dL_law_1147 rfl ?_
    refine V_if_ne 1164 dL_law_1149 rfl (fun hc => ?_) (fun hc => ?_)
    · replace h := h.1 hc
      refine V_goto 1779 dL_law_1164 rfl ?_
      obtain ⟨v8, e_v8⟩ : ∃ z : Int32, z = (x4 + 6) := ⟨_, rfl⟩
      replace h := h v8 e_v8
      refine V_iinc (lo2 := [(4, .int v8), (6, .int r4), (5, .int r1), (0, .ref 1000000), (1, .ref 0), (2, .ref 51), (3, .ref 79)]) 6 dL_law_1779 rfl (v := v8) (by rw [e_v8]; first | done | rfl) (by decide) rfl ?_
      refine V_goto 23 dL_law_1782 rfl ?_
      refine V_sub (lo2 := [(0, .ref 1000000), (1, .ref 0), (2, .ref 51), (3, .ref 79), (4, .int v8)]) [3, 4, 5, 6, 0] rfl ?_
      exact hK _ _ _ _ _ _ hA hScr hk hn h
    · replace h := h.2 hc
      refine V_aload_n dL_law_1152 rfl rfl ?_
      refine V_iconst (v := 0) dL_law_1153 (by decide) ?_
      obtain ⟨hb, h⟩ := h
      refine V_lald dL_law_1154 (hS.n 79 rfl) (hS.k 79 10 rfl) (by rw [(hS.z 79 1 rfl)]; exact hb) ?_
      refine V_iload dL_law_1155 rfl ?_
      refine V_i2l dL_law_1157 ?_
      refine V_lcmp dL_law_1158 ?_
      refine V_if_eq 1164 dL_law_1159 rfl (fun hc => ?_) (fun hc => ?_)
      · replace h := h.1 hc
        refine V_goto 1779 dL_law_1164 rfl ?_
        obtain ⟨v9, e_v9⟩ : ∃ z : Int32, z = (x4 + 6) := ⟨_, rfl⟩
        replace h := h v9 e_v9
        refine V_iinc (lo2 := [(4, .int v9), (6, .int r4), (5, .int r1), (0, .ref 1000000), (1, .ref 0), (2, .ref 51), (3, .ref 79)]) 6 dL_law_1779 rfl (v := v9) (by rw [e_v9]; first | done | rfl) (by decide) rfl ?_
        refine V_goto 23 dL_law_1782 rfl ?_
        refine V_sub (lo2 := [(0, .ref 1000000), (1, .ref 0), (2, .ref 51), (3, .ref 79), (4, .int v9)]) [3, 4, 5, 6, 0] rfl ?_
        exact hK _ _ _ _ _ _ hA hScr hk hn h
      · replace h := h.2 hc
        refine V_iconst (v := 0) dL_law_1162 (by decide) ?_
        exact V_zret dL_law_1163 rfl (by decide) hk hn ⟨_, rfl, h⟩
  · replace h := h.2 hc
    refine V_iconst (v := 0) dL_law_1145 (by decide) ?_
    exact V_zret dL_law_1146 rfl (by decide) hk hn ⟨_, rfl, h⟩
def wL_c14 (X : QX) (K : Int32 → QS → QI → QJ → Nat → Nat → Prop) (post : Int32 → Prop) (x4 : Int32) (S : QS) (I : QI) (J : QJ) (k n : Nat) : Prop := (vp_in (x4 + 1) X.2.1.2.1 ∧ (vp_in (x4 + 2) X.2.1.2.1 ∧ (k + 1 ≤ 601024 ∧ n + 6 ≤ 7293034 ∧ wL_node (X.2.1.2.2 ((x4 + 1)).toNatClampNeg) (X.2.1.2.2 ((x4 + 2)).toNatClampNeg) I J (fun r1 J3 => (vp_in (x4 + 1) X.2.1.2.1 ∧ (vp_in (x4 + 2) X.2.1.2.1 ∧ (wX8_node (X.2.1.2.2 ((x4 + 1)).toNatClampNeg) (X.2.1.2.2 ((x4 + 2)).toNatClampNeg) I (fun r5 I4 => (wX8_thrown I4 (fun r6 => ((r6 = r1 → ((¬ r1 = 0 → (∀ v7 : Int32, v7 = (x4 + 6) → (K v7 S I4 J3 (k + 1) (n + 6)))) ∧ (r1 = 0 → (vp_in 0 1 ∧ (((lg_cmp (J3 79 (0 : Int32).toNatClampNeg) ((r5).toInt64)) = 0 → (∀ v8 : Int32, v8 = (x4 + 6) → (K v8 S I4 J3 (k + 1) (n + 6)))) ∧ (¬ (lg_cmp (J3 79 (0 : Int32).toNatClampNeg) ((r5).toInt64)) = 0 → post 0)))))) ∧ (¬ r6 = r1 → post 0))))))))))))
set_option maxRecDepth 100000 in
set_option maxHeartbeats 4000000 in
theorem swL_c14 {X : QX} {K : Int32 → QS → QI → QJ → Nat → Nat → Prop} {post : Int32 → Prop} (hK : ∀ (i : Int32) (S : QS) (I : QI) (J : QJ) (k n : Nat), Sa S → S.1 1000000 = X.2.1.1 → k ≤ 601024 → n ≤ 7293034 → K i S I J k n → V X mL_law 1000 601024 7293034 (fun o _ _ _ => ∃ r : Int32, o = .inl (some (.int r)) ∧ post r) 23 [(0, .ref 1000000), (1, .ref 0), (2, .ref 51), (3, .ref 79), (4, .int i)] [] S I J k n) {x4 : Int32} {S : QS} {I : QI} {J : QJ} {k n : Nat} (hA : Sa S) (hScr : S.1 1000000 = X.2.1.1) (hk : k ≤ 601024) (hn : n ≤ 7293034) (h : wL_c14 X K post x4 S I J k n) : V X mL_law 1000 601024 7293034 (fun o _ _ _ => ∃ r : Int32, o = .inl (some (.int r)) ∧ post r) 1167 [(0, .ref 1000000), (1, .ref 0), (2, .ref 51), (3, .ref 79), (4, .int x4)] [] S I J k n := by
  have hS := hA.1
  replace h : (vp_in (x4 + 1) X.2.1.2.1 ∧ (vp_in (x4 + 2) X.2.1.2.1 ∧ (k + 1 ≤ 601024 ∧ n + 6 ≤ 7293034 ∧ wL_node (X.2.1.2.2 ((x4 + 1)).toNatClampNeg) (X.2.1.2.2 ((x4 + 2)).toNatClampNeg) I J (fun r1 J3 => (vp_in (x4 + 1) X.2.1.2.1 ∧ (vp_in (x4 + 2) X.2.1.2.1 ∧ (wX8_node (X.2.1.2.2 ((x4 + 1)).toNatClampNeg) (X.2.1.2.2 ((x4 + 2)).toNatClampNeg) I (fun r5 I4 => (wX8_thrown I4 (fun r6 => ((r6 = r1 → ((¬ r1 = 0 → (∀ v7 : Int32, v7 = (x4 + 6) → (K v7 S I4 J3 (k + 1) (n + 6)))) ∧ (r1 = 0 → (vp_in 0 1 ∧ (((lg_cmp (J3 79 (0 : Int32).toNatClampNeg) ((r5).toInt64)) = 0 → (∀ v8 : Int32, v8 = (x4 + 6) → (K v8 S I4 J3 (k + 1) (n + 6)))) ∧ (¬ (lg_cmp (J3 79 (0 : Int32).toNatClampNeg) ((r5).toInt64)) = 0 → post 0)))))) ∧ (¬ r6 = r1 → post 0)))))))))))) := h
  refine V_aload_n dL_law_1167 rfl rfl ?_
  refine V_aload_n dL_law_1168 rfl rfl ?_
  refine V_iload dL_law_1169 rfl ?_
  refine V_iconst (v := 1) dL_law_1171 (by decide) ?_
  refine V_iadd dL_law_1172 ?_
  obtain ⟨hb, h⟩ := h
  refine V_sld dL_law_1173 hScr hb ?_
  refine V_aload_n dL_law_1174 rfl rfl ?_
  refine V_iload dL_law_1175 rfl ?_
  refine V_iconst (v := 2) dL_law_1177 (by decide) ?_
  refine V_iadd dL_law_1178 ?_
  obtain ⟨hb, h⟩ := h
  refine V_sld dL_law_1179 hScr hb ?_
  refine V_aload_n dL_law_1180 rfl rfl ?_
  obtain ⟨hk9, hn9, h⟩ := h
  refine V_callSXi (st := []) [.ref 0, .int (X.2.1.2.2 ((x4 + 1)).toNatClampNeg), .int (X.2.1.2.2 ((x4 + 2)).toNatClampNeg), .ref 79] dL_law_1181 ok_mL_node (by decide) ml_RL_147 st_mL_node (Nat.le_of_ble_eq_true rfl) (by decide) hk9 hn9 (s_mL_node hS h) (fun r1 I9 J3 h => ?_)
  clear hk hn
  have hk := hk9
  have hn := hn9
  obtain ⟨rfl, h⟩ := h
  refine V_istore (lo2 := [(5, .int r1), (0, .ref 1000000), (1, .ref 0), (2, .ref 51), (3, .ref 79), (4, .int x4)]) dL_law_1184 (by decide) rfl ?_
  refine V_aload_n dL_law_1186 rfl rfl ?_
  refine V_aload_n dL_law_1187 rfl rfl ?_
  refine V_iload dL_law_1188 rfl ?_
  refine V_iconst (v := 1) dL_law_1190 (by decide) ?_
  refine V_iadd dL_law_1191 ?_
  obtain ⟨hb, h⟩ := h
  refine V_sld dL_law_1192 hScr hb ?_
  refine V_aload_n dL_law_1193 rfl rfl ?_
  refine V_iload dL_law_1194 rfl ?_
  refine V_iconst (v := 2) dL_law_1196 (by decide) ?_
  refine V_iadd dL_law_1197 ?_
  obtain ⟨hb, h⟩ := h
  refine V_sld dL_law_1198 hScr hb ?_
  refine V_callVi (st := []) [.int (X.2.1.2.2 ((x4 + 1)).toNatClampNeg), .int (X.2.1.2.2 ((x4 + 2)).toNatClampNeg)] dL_law_1199 ok_mX8_node rfl ml_RL_149 in_mX8_node se_mX8_node (hS.n 51 rfl) (hS.k 51 8 rfl) (by decide) rfl (Nat.le_of_ble_eq_true rfl) (by decide) hk hn (s_mX8_node hS h) (fun r5 I4 J9 h => ?_)
  obtain ⟨rfl, h⟩ := h
  refine V_istore (lo2 := [(6, .int r5), (5, .int r1), (0, .ref 1000000), (1, .ref 0), (2, .ref 51), (3, .ref 79), (4, .int x4)]) dL_law_1202 (by decide) rfl ?_
  refine V_aload_n dL_law_1204 rfl rfl ?_
  refine V_callVi (st := []) [] dL_law_1205 ok_mX8_thrown rfl ml_RL_100 in_mX8_thrown se_mX8_thrown (hS.n 51 rfl) (hS.k 51 8 rfl) (by decide) rfl (Nat.le_of_ble_eq_true rfl) (by decide) hk hn (s_mX8_thrown hS h) (fun r6 I9 J9 h => ?_)
  obtain ⟨rfl, rfl, h⟩ := h
  refine V_iload dL_law_1208 rfl ?_
  refine V_icmp_eq 1215 dL_law_1210 rfl (fun hc => ?_) (fun hc => ?_)
  · replace h := h.1 hc
    refine V_iload dL_law_1215 rfl ?_
    refine V_if_ne 1232 dL_law_1217 rfl (fun hc => ?_) (fun hc => ?_)
    · replace h := h.1 hc
      refine V_goto 1779 dL_law_1232 rfl ?_
      obtain ⟨v7, e_v7⟩ : ∃ z : Int32, z = (x4 + 6) := ⟨_, rfl⟩
      replace h := h v7 e_v7
      refine V_iinc (lo2 := [(4, .int v7), (6, .int r5), (5, .int r1), (0, .ref 1000000), (1, .ref 0), (2, .ref 51), (3, .ref 79)]) 6 dL_law_1779 rfl (v := v7) (by rw [e_v7]; first | done | rfl) (by decide) rfl ?_
      refine V_goto 23 dL_law_1782 rfl ?_
      refine V_sub (lo2 := [(0, .ref 1000000), (1, .ref 0), (2, .ref 51), (3, .ref 79), (4, .int v7)]) [3, 4, 5, 6, 0] rfl ?_
      exact hK _ _ _ _ _ _ hA hScr hk hn h
    · replace h := h.2 hc
      refine V_aload_n dL_law_1220 rfl rfl ?_
      refine V_iconst (v := 0) dL_law_1221 (by decide) ?_
      obtain ⟨hb, h⟩ := h
      refine V_lald dL_law_1222 (hS.n 79 rfl) (hS.k 79 10 rfl) (by rw [(hS.z 79 1 rfl)]; exact hb) ?_
      refine V_iload dL_law_1223 rfl ?_
      refine V_i2l dL_law_1225 ?_
      refine V_lcmp dL_law_1226 ?_
      refine V_if_eq 1232 dL_law_1227 rfl (fun hc => ?_) (fun hc => ?_)
      · replace h := h.1 hc
        refine V_goto 1779 dL_law_1232 rfl ?_
        obtain ⟨v8, e_v8⟩ : ∃ z : Int32, z = (x4 + 6) := ⟨_, rfl⟩
        replace h := h v8 e_v8
        refine V_iinc (lo2 := [(4, .int v8), (6, .int r5), (5, .int r1), (0, .ref 1000000), (1, .ref 0), (2, .ref 51), (3, .ref 79)]) 6 dL_law_1779 rfl (v := v8) (by rw [e_v8]; first | done | rfl) (by decide) rfl ?_
        refine V_goto 23 dL_law_1782 rfl ?_
        refine V_sub (lo2 := [(0, .ref 1000000), (1, .ref 0), (2, .ref 51), (3, .ref 79), (4, .int v8)]) [3, 4, 5, 6, 0] rfl ?_
        exact hK _ _ _ _ _ _ hA hScr hk hn h
      · replace h := h.2 hc
        refine V_iconst (v := 0) dL_law_1230 (by decide) ?_
        exact V_zret dL_law_1231 rfl (by decide) hk hn ⟨_, rfl, h⟩
  · replace h := h.2 hc
    refine V_iconst (v := 0) dL_law_1213 (by decide) ?_
    exact V_zret dL_law_1214 rfl (by decide) hk hn ⟨_, rfl, h⟩
def wL_c15 (X : QX) (K : Int32 → QS → QI → QJ → Nat → Nat → Prop) (post : Int32 → Prop) (x4 : Int32) (S : QS) (I : QI) (J : QJ) (k n : Nat) : Prop := (vp_in (x4 + 1) X.2.1.2.1 ∧ (vp_in (x4 + 2) X.2.1.2.1 ∧ (vp_in (x4 + 3) X.2.1.2.1 ∧ (vp_in (x4 + 4) X.2.1.2.1 ∧ (k + 1 ≤ 601024 ∧ n + 6 ≤ 7293034 ∧ wL_link (X.2.1.2.2 ((x4 + 1)).toNatClampNeg) (X.2.1.2.2 ((x4 + 2)).toNatClampNeg) (X.2.1.2.2 ((x4 + 3)).toNatClampNeg) (X.2.1.2.2 ((x4 + 4)).toNatClampNeg) I J (fun r1 I2 J3 => (vp_in (x4 + 1) X.2.1.2.1 ∧ (vp_in (x4 + 2) X.2.1.2.1 ∧ (vp_in (x4 + 3) X.2.1.2.1 ∧ (vp_in (x4 + 4) X.2.1.2.1 ∧ (wX8_link (X.2.1.2.2 ((x4 + 1)).toNatClampNeg) (X.2.1.2.2 ((x4 + 2)).toNatClampNeg) (X.2.1.2.2 ((x4 + 3)).toNatClampNeg) (X.2.1.2.2 ((x4 + 4)).toNatClampNeg) I2 (fun r5 I4 => (wX8_thrown I4 (fun r6 => ((r6 = r1 → ((¬ r1 = 0 → (∀ v7 : Int32, v7 = (x4 + 6) → (K v7 S I4 J3 (k + 1) (n + 6)))) ∧ (r1 = 0 → (vp_in 0 1 ∧ (((lg_cmp (J3 79 (0 : Int32).toNatClampNeg) ((r5).toInt64)) = 0 → (∀ v8 : Int32, v8 = (x4 + 6) → (K v8 S I4 J3 (k + 1) (n + 6)))) ∧ (¬ (lg_cmp (J3 79 (0 : Int32).toNatClampNeg) ((r5).toInt64)) = 0 → post 0)))))) ∧ (¬ r6 = r1 → post 0))))))))))))))))
set_option maxRecDepth 100000 in
set_option maxHeartbeats 4000000 in
theorem swL_c15 {X : QX} {K : Int32 → QS → QI → QJ → Nat → Nat → Prop} {post : Int32 → Prop} (hK : ∀ (i : Int32) (S : QS) (I : QI) (J : QJ) (k n : Nat), Sa S → S.1 1000000 = X.2.1.1 → k ≤ 601024 → n ≤ 7293034 → K i S I J k n → V X mL_law 1000 601024 7293034 (fun o _ _ _ => ∃ r : Int32, o = .inl (some (.int r)) ∧ post r) 23 [(0, .ref 1000000), (1, .ref 0), (2, .ref 51), (3, .ref 79), (4, .int i)] [] S I J k n) {x4 : Int32} {S : QS} {I : QI} {J : QJ} {k n : Nat} (hA : Sa S) (hScr : S.1 1000000 = X.2.1.1) (hk : k ≤ 601024) (hn : n ≤ 7293034) (h : wL_c15 X K post x4 S I J k n) : V X mL_law 1000 601024 7293034 (fun o _ _ _ => ∃ r : Int32, o = .inl (some (.int r)) ∧ post r) 1235 [(0, .ref 1000000), (1, .ref 0), (2, .ref 51), (3, .ref 79), (4, .int x4)] [] S I J k n := by
  have hS := hA.1
  replace h : (vp_in (x4 + 1) X.2.1.2.1 ∧ (vp_in (x4 + 2) X.2.1.2.1 ∧ (vp_in (x4 + 3) X.2.1.2.1 ∧ (vp_in (x4 + 4) X.2.1.2.1 ∧ (k + 1 ≤ 601024 ∧ n + 6 ≤ 7293034 ∧ wL_link (X.2.1.2.2 ((x4 + 1)).toNatClampNeg) (X.2.1.2.2 ((x4 + 2)).toNatClampNeg) (X.2.1.2.2 ((x4 + 3)).toNatClampNeg) (X.2.1.2.2 ((x4 + 4)).toNatClampNeg) I J (fun r1 I2 J3 => (vp_in (x4 + 1) X.2.1.2.1 ∧ (vp_in (x4 + 2) X.2.1.2.1 ∧ (vp_in (x4 + 3) X.2.1.2.1 ∧ (vp_in (x4 + 4) X.2.1.2.1 ∧ (wX8_link (X.2.1.2.2 ((x4 + 1)).toNatClampNeg) (X.2.1.2.2 ((x4 + 2)).toNatClampNeg) (X.2.1.2.2 ((x4 + 3)).toNatClampNeg) (X.2.1.2.2 ((x4 + 4)).toNatClampNeg) I2 (fun r5 I4 => (wX8_thrown I4 (fun r6 => ((r6 = r1 → ((¬ r1 = 0 → (∀ v7 : Int32, v7 = (x4 + 6) → (K v7 S I4 J3 (k + 1) (n + 6)))) ∧ (r1 = 0 → (vp_in 0 1 ∧ (((lg_cmp (J3 79 (0 : Int32).toNatClampNeg) ((r5).toInt64)) = 0 → (∀ v8 : Int32, v8 = (x4 + 6) → (K v8 S I4 J3 (k + 1) (n + 6)))) ∧ (¬ (lg_cmp (J3 79 (0 : Int32).toNatClampNeg) ((r5).toInt64)) = 0 → post 0)))))) ∧ (¬ r6 = r1 → post 0)))))))))))))))) := h
  refine V_aload_n dL_law_1235 rfl rfl ?_
  refine V_aload_n dL_law_1236 rfl rfl ?_
  refine V_iload dL_law_1237 rfl ?_
  refine V_iconst (v := 1) dL_law_1239 (by decide) ?_
  refine V_iadd dL_law_1240 ?_
  obtain ⟨hb, h⟩ := h
  refine V_sld dL_law_1241 hScr hb ?_
  refine V_aload_n dL_law_1242 rfl rfl ?_
  refine V_iload dL_law_1243 rfl ?_
  refine V_iconst (v := 2) dL_law_1245 (by decide) ?_
  refine V_iadd dL_law_1246 ?_
  obtain ⟨hb, h⟩ := h
  refine V_sld dL_law_1247 hScr hb ?_
  refine V_aload_n dL_law_1248 rfl rfl ?_
  refine V_iload dL_law_1249 rfl ?_
  refine V_iconst (v := 3) dL_law_1251 (by decide) ?_
  refine V_iadd dL_law_1252 ?_
  obtain ⟨hb, h⟩ := h
  refine V_sld dL_law_1253 hScr hb ?_
  refine V_aload_n dL_law_1254 rfl rfl ?_
  refine V_iload dL_law_1255 rfl ?_
  refine V_iconst (v := 4) dL_law_1257 (by decide) ?_
  refine V_iadd dL_law_1258 ?_
  obtain ⟨hb, h⟩ := h
  refine V_sld dL_law_1259 hScr hb ?_
  refine V_aload_n dL_law_1260 rfl rfl ?_
  obtain ⟨hk9, hn9, h⟩ := h
  refine V_callSXi (st := []) [.ref 0, .int (X.2.1.2.2 ((x4 + 1)).toNatClampNeg), .int (X.2.1.2.2 ((x4 + 2)).toNatClampNeg), .int (X.2.1.2.2 ((x4 + 3)).toNatClampNeg), .int (X.2.1.2.2 ((x4 + 4)).toNatClampNeg), .ref 79] dL_law_1261 ok_mL_link (by decide) ml_RL_150 st_mL_link (Nat.le_of_ble_eq_true rfl) (by decide) hk9 hn9 (s_mL_link hS h) (fun r1 I2 J3 h => ?_)
  clear hk hn
  have hk := hk9
  have hn := hn9
  refine V_istore (lo2 := [(5, .int r1), (0, .ref 1000000), (1, .ref 0), (2, .ref 51), (3, .ref 79), (4, .int x4)]) dL_law_1264 (by decide) rfl ?_
  refine V_aload_n dL_law_1266 rfl rfl ?_
  refine V_aload_n dL_law_1267 rfl rfl ?_
  refine V_iload dL_law_1268 rfl ?_
  refine V_iconst (v := 1) dL_law_1270 (by decide) ?_
  refine V_iadd dL_law_1271 ?_
  obtain ⟨hb, h⟩ := h
  refine V_sld dL_law_1272 hScr hb ?_
  refine V_aload_n dL_law_1273 rfl rfl ?_
  refine V_iload dL_law_1274 rfl ?_
  refine V_iconst (v := 2) dL_law_1276 (by decide) ?_
  refine V_iadd dL_law_1277 ?_
  obtain ⟨hb, h⟩ := h
  refine V_sld dL_law_1278 hScr hb ?_
  refine V_aload_n dL_law_1279 rfl rfl ?_
  refine V_iload dL_law_1280 rfl ?_
  refine V_iconst (v := 3) dL_law_1282 (by decide) ?_
  refine V_iadd dL_law_1283 ?_
  obtain ⟨hb, h⟩ := h
  refine V_sld dL_law_1284 hScr hb ?_
  refine V_aload_n dL_law_1285 rfl rfl ?_
  refine V_iload dL_law_1286 rfl ?_
  refine V_iconst (v := 4) dL_law_1288 (by decide) ?_
  refine V_iadd dL_law_1289 ?_
  obtain ⟨hb, h⟩ := h
  refine V_sld dL_law_1290 hScr hb ?_
  refine V_callVi (st := []) [.int (X.2.1.2.2 ((x4 + 1)).toNatClampNeg), .int (X.2.1.2.2 ((x4 + 2)).toNatClampNeg), .int (X.2.1.2.2 ((x4 + 3)).toNatClampNeg), .int (X.2.1.2.2 ((x4 + 4)).toNatClampNeg)] dL_law_1291 ok_mX8_link rfl ml_RL_152 in_mX8_link se_mX8_link (hS.n 51 rfl) (hS.k 51 8 rfl) (by decide) rfl (Nat.le_of_ble_eq_true rfl) (by decide) hk hn (s_mX8_link hS h) (fun r5 I4 J9 h => ?_)
  obtain ⟨rfl, h⟩ := h
  refine V_istore (lo2 := [(6, .int r5), (5, .int r1), (0, .ref 1000000), (1, .ref 0), (2, .ref 51), (3, .ref 79), (4, .int x4)]) dL_law_1294 (by decide) rfl ?_
  refine V_aload_n dL_law_1296 rfl rfl ?_
  refine V_callVi (st := []) [] dL_law_1297 ok_mX8_thrown rfl ml_RL_100 in_mX8_thrown se_mX8_thrown (hS.n 51 rfl) (hS.k 51 8 rfl) (by decide) rfl (Nat.le_of_ble_eq_true rfl) (by decide) hk hn (s_mX8_thrown hS h) (fun r6 I9 J9 h => ?_)
  obtain ⟨rfl, rfl, h⟩ := h
  refine V_iload dL_law_1300 rfl ?_
  refine V_icmp_eq 1307 dL_law_1302 rfl (fun hc => ?_) (fun hc => ?_)
  · replace h := h.1 hc
    refine V_iload dL_law_1307 rfl ?_
    refine V_if_ne 1324 dL_law_1309 rfl (fun hc => ?_) (fun hc => ?_)
    · replace h := h.1 hc
      refine V_goto 1779 dL_law_1324 rfl ?_
      obtain ⟨v7, e_v7⟩ : ∃ z : Int32, z = (x4 + 6) := ⟨_, rfl⟩
      replace h := h v7 e_v7
      refine V_iinc (lo2 := [(4, .int v7), (6, .int r5), (5, .int r1), (0, .ref 1000000), (1, .ref 0), (2, .ref 51), (3, .ref 79)]) 6 dL_law_1779 rfl (v := v7) (by rw [e_v7]; first | done | rfl) (by decide) rfl ?_
      refine V_goto 23 dL_law_1782 rfl ?_
      refine V_sub (lo2 := [(0, .ref 1000000), (1, .ref 0), (2, .ref 51), (3, .ref 79), (4, .int v7)]) [3, 4, 5, 6, 0] rfl ?_
      exact hK _ _ _ _ _ _ hA hScr hk hn h
    · replace h := h.2 hc
      refine V_aload_n dL_law_1312 rfl rfl ?_
      refine V_iconst (v := 0) dL_law_1313 (by decide) ?_
      obtain ⟨hb, h⟩ := h
      refine V_lald dL_law_1314 (hS.n 79 rfl) (hS.k 79 10 rfl) (by rw [(hS.z 79 1 rfl)]; exact hb) ?_
      refine V_iload dL_law_1315 rfl ?_
      refine V_i2l dL_law_1317 ?_
      refine V_lcmp dL_law_1318 ?_
      refine V_if_eq 1324 dL_law_1319 rfl (fun hc => ?_) (fun hc => ?_)
      · replace h := h.1 hc
        refine V_goto 1779 dL_law_1324 rfl ?_
        obtain ⟨v8, e_v8⟩ : ∃ z : Int32, z = (x4 + 6) := ⟨_, rfl⟩
        replace h := h v8 e_v8
        refine V_iinc (lo2 := [(4, .int v8), (6, .int r5), (5, .int r1), (0, .ref 1000000), (1, .ref 0), (2, .ref 51), (3, .ref 79)]) 6 dL_law_1779 rfl (v := v8) (by rw [e_v8]; first | done | rfl) (by decide) rfl ?_
        refine V_goto 23 dL_law_1782 rfl ?_
        refine V_sub (lo2 := [(0, .ref 1000000), (1, .ref 0), (2, .ref 51), (3, .ref 79), (4, .int v8)]) [3, 4, 5, 6, 0] rfl ?_
        exact hK _ _ _ _ _ _ hA hScr hk hn h
      · replace h := h.2 hc
        refine V_iconst (v := 0) dL_law_1322 (by decide) ?_
        exact V_zret dL_law_1323 rfl (by decide) hk hn ⟨_, rfl, h⟩
  · replace h := h.2 hc
    refine V_iconst (v := 0) dL_law_1305 (by decide) ?_
    exact V_zret dL_law_1306 rfl (by decide) hk hn ⟨_, rfl, h⟩
def wL_c16 (X : QX) (K : Int32 → QS → QI → QJ → Nat → Nat → Prop) (post : Int32 → Prop) (x4 : Int32) (S : QS) (I : QI) (J : QJ) (k n : Nat) : Prop := (vp_in (x4 + 1) X.2.1.2.1 ∧ (k + 1 ≤ 601024 ∧ n + 6 ≤ 7293034 ∧ wL_estimate (X.2.1.2.2 ((x4 + 1)).toNatClampNeg) I J (fun r1 I2 J3 => (vp_in (x4 + 1) X.2.1.2.1 ∧ (wX8_estimate (X.2.1.2.2 ((x4 + 1)).toNatClampNeg) I2 (fun r5 I4 => (wX8_thrown I4 (fun r6 => ((r6 = r1 → ((¬ r1 = 0 → (∀ v7 : Int32, v7 = (x4 + 6) → (K v7 S I4 J3 (k + 1) (n + 6)))) ∧ (r1 = 0 → (vp_in 0 1 ∧ (((lg_cmp (J3 79 (0 : Int32).toNatClampNeg) ((r5).toInt64)) = 0 → (∀ v8 : Int32, v8 = (x4 + 6) → (K v8 S I4 J3 (k + 1) (n + 6)))) ∧ (¬ (lg_cmp (J3 79 (0 : Int32).toNatClampNeg) ((r5).toInt64)) = 0 → post 0)))))) ∧ (¬ r6 = r1 → post 0))))))))))
set_option maxRecDepth 100000 in
set_option maxHeartbeats 4000000 in
theorem swL_c16 {X : QX} {K : Int32 → QS → QI → QJ → Nat → Nat → Prop} {post : Int32 → Prop} (hK : ∀ (i : Int32) (S : QS) (I : QI) (J : QJ) (k n : Nat), Sa S → S.1 1000000 = X.2.1.1 → k ≤ 601024 → n ≤ 7293034 → K i S I J k n → V X mL_law 1000 601024 7293034 (fun o _ _ _ => ∃ r : Int32, o = .inl (some (.int r)) ∧ post r) 23 [(0, .ref 1000000), (1, .ref 0), (2, .ref 51), (3, .ref 79), (4, .int i)] [] S I J k n) {x4 : Int32} {S : QS} {I : QI} {J : QJ} {k n : Nat} (hA : Sa S) (hScr : S.1 1000000 = X.2.1.1) (hk : k ≤ 601024) (hn : n ≤ 7293034) (h : wL_c16 X K post x4 S I J k n) : V X mL_law 1000 601024 7293034 (fun o _ _ _ => ∃ r : Int32, o = .inl (some (.int r)) ∧ post r) 1327 [(0, .ref 1000000), (1, .ref 0), (2, .ref 51), (3, .ref 79), (4, .int x4)] [] S I J k n := by
  have hS := hA.1
  replace h : (vp_in (x4 + 1) X.2.1.2.1 ∧ (k + 1 ≤ 601024 ∧ n + 6 ≤ 7293034 ∧ wL_estimate (X.2.1.2.2 ((x4 + 1)).toNatClampNeg) I J (fun r1 I2 J3 => (vp_in (x4 + 1) X.2.1.2.1 ∧ (wX8_estimate (X.2.1.2.2 ((x4 + 1)).toNatClampNeg) I2 (fun r5 I4 => (wX8_thrown I4 (fun r6 => ((r6 = r1 → ((¬ r1 = 0 → (∀ v7 : Int32, v7 = (x4 + 6) → (K v7 S I4 J3 (k + 1) (n + 6)))) ∧ (r1 = 0 → (vp_in 0 1 ∧ (((lg_cmp (J3 79 (0 : Int32).toNatClampNeg) ((r5).toInt64)) = 0 → (∀ v8 : Int32, v8 = (x4 + 6) → (K v8 S I4 J3 (k + 1) (n + 6)))) ∧ (¬ (lg_cmp (J3 79 (0 : Int32).toNatClampNeg) ((r5).toInt64)) = 0 → post 0)))))) ∧ (¬ r6 = r1 → post 0)))))))))) := h
  refine V_aload_n dL_law_1327 rfl rfl ?_
  refine V_aload_n dL_law_1328 rfl rfl ?_
  refine V_iload dL_law_1329 rfl ?_
  refine V_iconst (v := 1) dL_law_1331 (by decide) ?_
  refine V_iadd dL_law_1332 ?_
  obtain ⟨hb, h⟩ := h
  refine V_sld dL_law_1333 hScr hb ?_
  refine V_aload_n dL_law_1334 rfl rfl ?_
  obtain ⟨hk9, hn9, h⟩ := h
  refine V_callSXi (st := []) [.ref 0, .int (X.2.1.2.2 ((x4 + 1)).toNatClampNeg), .ref 79] dL_law_1335 ok_mL_estimate (by decide) ml_RL_153 st_mL_estimate (Nat.le_of_ble_eq_true rfl) (by decide) hk9 hn9 (s_mL_estimate hS h) (fun r1 I2 J3 h => ?_)
  clear hk hn
  have hk := hk9
  have hn := hn9
  refine V_istore (lo2 := [(5, .int r1), (0, .ref 1000000), (1, .ref 0), (2, .ref 51), (3, .ref 79), (4, .int x4)]) dL_law_1338 (by decide) rfl ?_
  refine V_aload_n dL_law_1340 rfl rfl ?_
  refine V_aload_n dL_law_1341 rfl rfl ?_
  refine V_iload dL_law_1342 rfl ?_
  refine V_iconst (v := 1) dL_law_1344 (by decide) ?_
  refine V_iadd dL_law_1345 ?_
  obtain ⟨hb, h⟩ := h
  refine V_sld dL_law_1346 hScr hb ?_
  refine V_callVi (st := []) [.int (X.2.1.2.2 ((x4 + 1)).toNatClampNeg)] dL_law_1347 ok_mX8_estimate rfl ml_RL_155 in_mX8_estimate se_mX8_estimate (hS.n 51 rfl) (hS.k 51 8 rfl) (by decide) rfl (Nat.le_of_ble_eq_true rfl) (by decide) hk hn (s_mX8_estimate hS h) (fun r5 I4 J9 h => ?_)
  obtain ⟨rfl, h⟩ := h
  refine V_istore (lo2 := [(6, .int r5), (5, .int r1), (0, .ref 1000000), (1, .ref 0), (2, .ref 51), (3, .ref 79), (4, .int x4)]) dL_law_1350 (by decide) rfl ?_
  refine V_aload_n dL_law_1352 rfl rfl ?_
  refine V_callVi (st := []) [] dL_law_1353 ok_mX8_thrown rfl ml_RL_100 in_mX8_thrown se_mX8_thrown (hS.n 51 rfl) (hS.k 51 8 rfl) (by decide) rfl (Nat.le_of_ble_eq_true rfl) (by decide) hk hn (s_mX8_thrown hS h) (fun r6 I9 J9 h => ?_)
  obtain ⟨rfl, rfl, h⟩ := h
  refine V_iload dL_law_1356 rfl ?_
  refine V_icmp_eq 1363 dL_law_1358 rfl (fun hc => ?_) (fun hc => ?_)
  · replace h := h.1 hc
    refine V_iload dL_law_1363 rfl ?_
    refine V_if_ne 1380 dL_law_1365 rfl (fun hc => ?_) (fun hc => ?_)
    · replace h := h.1 hc
      refine V_goto 1779 dL_law_1380 rfl ?_
      obtain ⟨v7, e_v7⟩ : ∃ z : Int32, z = (x4 + 6) := ⟨_, rfl⟩
      replace h := h v7 e_v7
      refine V_iinc (lo2 := [(4, .int v7), (6, .int r5), (5, .int r1), (0, .ref 1000000), (1, .ref 0), (2, .ref 51), (3, .ref 79)]) 6 dL_law_1779 rfl (v := v7) (by rw [e_v7]; first | done | rfl) (by decide) rfl ?_
      refine V_goto 23 dL_law_1782 rfl ?_
      refine V_sub (lo2 := [(0, .ref 1000000), (1, .ref 0), (2, .ref 51), (3, .ref 79), (4, .int v7)]) [3, 4, 5, 6, 0] rfl ?_
      exact hK _ _ _ _ _ _ hA hScr hk hn h
    · replace h := h.2 hc
      refine V_aload_n dL_law_1368 rfl rfl ?_
      refine V_iconst (v := 0) dL_law_1369 (by decide) ?_
      obtain ⟨hb, h⟩ := h
      refine V_lald dL_law_1370 (hS.n 79 rfl) (hS.k 79 10 rfl) (by rw [(hS.z 79 1 rfl)]; exact hb) ?_
      refine V_iload dL_law_1371 rfl ?_
      refine V_i2l dL_law_1373 ?_
      refine V_lcmp dL_law_1374 ?_
      refine V_if_eq 1380 dL_law_1375 rfl (fun hc => ?_) (fun hc => ?_)
      · replace h := h.1 hc
        refine V_goto 1779 dL_law_1380 rfl ?_
        obtain ⟨v8, e_v8⟩ : ∃ z : Int32, z = (x4 + 6) := ⟨_, rfl⟩
        replace h := h v8 e_v8
        refine V_iinc (lo2 := [(4, .int v8), (6, .int r5), (5, .int r1), (0, .ref 1000000), (1, .ref 0), (2, .ref 51), (3, .ref 79)]) 6 dL_law_1779 rfl (v := v8) (by rw [e_v8]; first | done | rfl) (by decide) rfl ?_
        refine V_goto 23 dL_law_1782 rfl ?_
        refine V_sub (lo2 := [(0, .ref 1000000), (1, .ref 0), (2, .ref 51), (3, .ref 79), (4, .int v8)]) [3, 4, 5, 6, 0] rfl ?_
        exact hK _ _ _ _ _ _ hA hScr hk hn h
      · replace h := h.2 hc
        refine V_iconst (v := 0) dL_law_1378 (by decide) ?_
        exact V_zret dL_law_1379 rfl (by decide) hk hn ⟨_, rfl, h⟩
  · replace h := h.2 hc
    refine V_iconst (v := 0) dL_law_1361 (by decide) ?_
    exact V_zret dL_law_1362 rfl (by decide) hk hn ⟨_, rfl, h⟩
def wL_c17 (X : QX) (K : Int32 → QS → QI → QJ → Nat → Nat → Prop) (post : Int32 → Prop) (x4 : Int32) (S : QS) (I : QI) (J : QJ) (k n : Nat) : Prop := (vp_in (x4 + 1) X.2.1.2.1 ∧ (k + 1 ≤ 601024 ∧ n + 6 ≤ 7293034 ∧ wL_cost (X.2.1.2.2 ((x4 + 1)).toNatClampNeg) I J (fun r1 I2 J3 => (vp_in (x4 + 1) X.2.1.2.1 ∧ (wX8_cost (X.2.1.2.2 ((x4 + 1)).toNatClampNeg) I2 (fun r5 I4 => (wX8_thrown I4 (fun r6 => ((r6 = r1 → ((¬ r1 = 0 → (∀ v7 : Int32, v7 = (x4 + 6) → (K v7 S I4 J3 (k + 1) (n + 6)))) ∧ (r1 = 0 → (vp_in 0 1 ∧ (((lg_cmp (J3 79 (0 : Int32).toNatClampNeg) ((r5).toInt64)) = 0 → (∀ v8 : Int32, v8 = (x4 + 6) → (K v8 S I4 J3 (k + 1) (n + 6)))) ∧ (¬ (lg_cmp (J3 79 (0 : Int32).toNatClampNeg) ((r5).toInt64)) = 0 → post 0)))))) ∧ (¬ r6 = r1 → post 0))))))))))
set_option maxRecDepth 100000 in
set_option maxHeartbeats 4000000 in
theorem swL_c17 {X : QX} {K : Int32 → QS → QI → QJ → Nat → Nat → Prop} {post : Int32 → Prop} (hK : ∀ (i : Int32) (S : QS) (I : QI) (J : QJ) (k n : Nat), Sa S → S.1 1000000 = X.2.1.1 → k ≤ 601024 → n ≤ 7293034 → K i S I J k n → V X mL_law 1000 601024 7293034 (fun o _ _ _ => ∃ r : Int32, o = .inl (some (.int r)) ∧ post r) 23 [(0, .ref 1000000), (1, .ref 0), (2, .ref 51), (3, .ref 79), (4, .int i)] [] S I J k n) {x4 : Int32} {S : QS} {I : QI} {J : QJ} {k n : Nat} (hA : Sa S) (hScr : S.1 1000000 = X.2.1.1) (hk : k ≤ 601024) (hn : n ≤ 7293034) (h : wL_c17 X K post x4 S I J k n) : V X mL_law 1000 601024 7293034 (fun o _ _ _ => ∃ r : Int32, o = .inl (some (.int r)) ∧ post r) 1383 [(0, .ref 1000000), (1, .ref 0), (2, .ref 51), (3, .ref 79), (4, .int x4)] [] S I J k n := by
  have hS := hA.1
  replace h : (vp_in (x4 + 1) X.2.1.2.1 ∧ (k + 1 ≤ 601024 ∧ n + 6 ≤ 7293034 ∧ wL_cost (X.2.1.2.2 ((x4 + 1)).toNatClampNeg) I J (fun r1 I2 J3 => (vp_in (x4 + 1) X.2.1.2.1 ∧ (wX8_cost (X.2.1.2.2 ((x4 + 1)).toNatClampNeg) I2 (fun r5 I4 => (wX8_thrown I4 (fun r6 => ((r6 = r1 → ((¬ r1 = 0 → (∀ v7 : Int32, v7 = (x4 + 6) → (K v7 S I4 J3 (k + 1) (n + 6)))) ∧ (r1 = 0 → (vp_in 0 1 ∧ (((lg_cmp (J3 79 (0 : Int32).toNatClampNeg) ((r5).toInt64)) = 0 → (∀ v8 : Int32, v8 = (x4 + 6) → (K v8 S I4 J3 (k + 1) (n + 6)))) ∧ (¬ (lg_cmp (J3 79 (0 : Int32).toNatClampNeg) ((r5).toInt64)) = 0 → post 0)))))) ∧ (¬ r6 = r1 → post 0)))))))))) := h
  refine V_aload_n dL_law_1383 rfl rfl ?_
  refine V_aload_n dL_law_1384 rfl rfl ?_
  refine V_iload dL_law_1385 rfl ?_
  refine V_iconst (v := 1) dL_law_1387 (by decide) ?_
  refine V_iadd dL_law_1388 ?_
  obtain ⟨hb, h⟩ := h
  refine V_sld dL_law_1389 hScr hb ?_
  refine V_aload_n dL_law_1390 rfl rfl ?_
  obtain ⟨hk9, hn9, h⟩ := h
  refine V_callSXi (st := []) [.ref 0, .int (X.2.1.2.2 ((x4 + 1)).toNatClampNeg), .ref 79] dL_law_1391 ok_mL_cost (by decide) ml_RL_156 st_mL_cost (Nat.le_of_ble_eq_true rfl) (by decide) hk9 hn9 (s_mL_cost hS h) (fun r1 I2 J3 h => ?_)
  clear hk hn
  have hk := hk9
  have hn := hn9
  refine V_istore (lo2 := [(5, .int r1), (0, .ref 1000000), (1, .ref 0), (2, .ref 51), (3, .ref 79), (4, .int x4)]) dL_law_1394 (by decide) rfl ?_
  refine V_aload_n dL_law_1396 rfl rfl ?_
  refine V_aload_n dL_law_1397 rfl rfl ?_
  refine V_iload dL_law_1398 rfl ?_
  refine V_iconst (v := 1) dL_law_1400 (by decide) ?_
  refine V_iadd dL_law_1401 ?_
  obtain ⟨hb, h⟩ := h
  refine V_sld dL_law_1402 hScr hb ?_
  refine V_callVi (st := []) [.int (X.2.1.2.2 ((x4 + 1)).toNatClampNeg)] dL_law_1403 ok_mX8_cost rfl ml_RL_158 in_mX8_cost se_mX8_cost (hS.n 51 rfl) (hS.k 51 8 rfl) (by decide) rfl (Nat.le_of_ble_eq_true rfl) (by decide) hk hn (s_mX8_cost hS h) (fun r5 I4 J9 h => ?_)
  obtain ⟨rfl, h⟩ := h
  refine V_istore (lo2 := [(6, .int r5), (5, .int r1), (0, .ref 1000000), (1, .ref 0), (2, .ref 51), (3, .ref 79), (4, .int x4)]) dL_law_1406 (by decide) rfl ?_
  refine V_aload_n dL_law_1408 rfl rfl ?_
  refine V_callVi (st := []) [] dL_law_1409 ok_mX8_thrown rfl ml_RL_100 in_mX8_thrown se_mX8_thrown (hS.n 51 rfl) (hS.k 51 8 rfl) (by decide) rfl (Nat.le_of_ble_eq_true rfl) (by decide) hk hn (s_mX8_thrown hS h) (fun r6 I9 J9 h => ?_)
  obtain ⟨rfl, rfl, h⟩ := h
  refine V_iload dL_law_1412 rfl ?_
  refine V_icmp_eq 1419 dL_law_1414 rfl (fun hc => ?_) (fun hc => ?_)
  · replace h := h.1 hc
    refine V_iload dL_law_1419 rfl ?_
    refine V_if_ne 1436 dL_law_1421 rfl (fun hc => ?_) (fun hc => ?_)
    · replace h := h.1 hc
      refine V_goto 1779 dL_law_1436 rfl ?_
      obtain ⟨v7, e_v7⟩ : ∃ z : Int32, z = (x4 + 6) := ⟨_, rfl⟩
      replace h := h v7 e_v7
      refine V_iinc (lo2 := [(4, .int v7), (6, .int r5), (5, .int r1), (0, .ref 1000000), (1, .ref 0), (2, .ref 51), (3, .ref 79)]) 6 dL_law_1779 rfl (v := v7) (by rw [e_v7]; first | done | rfl) (by decide) rfl ?_
      refine V_goto 23 dL_law_1782 rfl ?_
      refine V_sub (lo2 := [(0, .ref 1000000), (1, .ref 0), (2, .ref 51), (3, .ref 79), (4, .int v7)]) [3, 4, 5, 6, 0] rfl ?_
      exact hK _ _ _ _ _ _ hA hScr hk hn h
    · replace h := h.2 hc
      refine V_aload_n dL_law_1424 rfl rfl ?_
      refine V_iconst (v := 0) dL_law_1425 (by decide) ?_
      obtain ⟨hb, h⟩ := h
      refine V_lald dL_law_1426 (hS.n 79 rfl) (hS.k 79 10 rfl) (by rw [(hS.z 79 1 rfl)]; exact hb) ?_
      refine V_iload dL_law_1427 rfl ?_
      refine V_i2l dL_law_1429 ?_
      refine V_lcmp dL_law_1430 ?_
      refine V_if_eq 1436 dL_law_1431 rfl (fun hc => ?_) (fun hc => ?_)
      · replace h := h.1 hc
        refine V_goto 1779 dL_law_1436 rfl ?_
        obtain ⟨v8, e_v8⟩ : ∃ z : Int32, z = (x4 + 6) := ⟨_, rfl⟩
        replace h := h v8 e_v8
        refine V_iinc (lo2 := [(4, .int v8), (6, .int r5), (5, .int r1), (0, .ref 1000000), (1, .ref 0), (2, .ref 51), (3, .ref 79)]) 6 dL_law_1779 rfl (v := v8) (by rw [e_v8]; first | done | rfl) (by decide) rfl ?_
        refine V_goto 23 dL_law_1782 rfl ?_
        refine V_sub (lo2 := [(0, .ref 1000000), (1, .ref 0), (2, .ref 51), (3, .ref 79), (4, .int v8)]) [3, 4, 5, 6, 0] rfl ?_
        exact hK _ _ _ _ _ _ hA hScr hk hn h
      · replace h := h.2 hc
        refine V_iconst (v := 0) dL_law_1434 (by decide) ?_
        exact V_zret dL_law_1435 rfl (by decide) hk hn ⟨_, rfl, h⟩
  · replace h := h.2 hc
    refine V_iconst (v := 0) dL_law_1417 (by decide) ?_
    exact V_zret dL_law_1418 rfl (by decide) hk hn ⟨_, rfl, h⟩
def wL_c18 (X : QX) (K : Int32 → QS → QI → QJ → Nat → Nat → Prop) (post : Int32 → Prop) (x4 : Int32) (S : QS) (I : QI) (J : QJ) (k n : Nat) : Prop := (vp_in (x4 + 1) X.2.1.2.1 ∧ (k + 1 ≤ 601024 ∧ n + 6 ≤ 7293034 ∧ wL_split (X.2.1.2.2 ((x4 + 1)).toNatClampNeg) I J (fun r1 I2 J3 => (vp_in (x4 + 1) X.2.1.2.1 ∧ (wX8_split (X.2.1.2.2 ((x4 + 1)).toNatClampNeg) I2 (fun r5 I4 => (wX8_thrown I4 (fun r6 => ((r6 = r1 → ((¬ r1 = 0 → (∀ v7 : Int32, v7 = (x4 + 6) → (K v7 S I4 J3 (k + 1) (n + 6)))) ∧ (r1 = 0 → (vp_in 0 1 ∧ (((lg_cmp (J3 79 (0 : Int32).toNatClampNeg) ((r5).toInt64)) = 0 → (∀ v8 : Int32, v8 = (x4 + 6) → (K v8 S I4 J3 (k + 1) (n + 6)))) ∧ (¬ (lg_cmp (J3 79 (0 : Int32).toNatClampNeg) ((r5).toInt64)) = 0 → post 0)))))) ∧ (¬ r6 = r1 → post 0))))))))))
set_option maxRecDepth 100000 in
set_option maxHeartbeats 4000000 in
theorem swL_c18 {X : QX} {K : Int32 → QS → QI → QJ → Nat → Nat → Prop} {post : Int32 → Prop} (hK : ∀ (i : Int32) (S : QS) (I : QI) (J : QJ) (k n : Nat), Sa S → S.1 1000000 = X.2.1.1 → k ≤ 601024 → n ≤ 7293034 → K i S I J k n → V X mL_law 1000 601024 7293034 (fun o _ _ _ => ∃ r : Int32, o = .inl (some (.int r)) ∧ post r) 23 [(0, .ref 1000000), (1, .ref 0), (2, .ref 51), (3, .ref 79), (4, .int i)] [] S I J k n) {x4 : Int32} {S : QS} {I : QI} {J : QJ} {k n : Nat} (hA : Sa S) (hScr : S.1 1000000 = X.2.1.1) (hk : k ≤ 601024) (hn : n ≤ 7293034) (h : wL_c18 X K post x4 S I J k n) : V X mL_law 1000 601024 7293034 (fun o _ _ _ => ∃ r : Int32, o = .inl (some (.int r)) ∧ post r) 1439 [(0, .ref 1000000), (1, .ref 0), (2, .ref 51), (3, .ref 79), (4, .int x4)] [] S I J k n := by
  have hS := hA.1
  replace h : (vp_in (x4 + 1) X.2.1.2.1 ∧ (k + 1 ≤ 601024 ∧ n + 6 ≤ 7293034 ∧ wL_split (X.2.1.2.2 ((x4 + 1)).toNatClampNeg) I J (fun r1 I2 J3 => (vp_in (x4 + 1) X.2.1.2.1 ∧ (wX8_split (X.2.1.2.2 ((x4 + 1)).toNatClampNeg) I2 (fun r5 I4 => (wX8_thrown I4 (fun r6 => ((r6 = r1 → ((¬ r1 = 0 → (∀ v7 : Int32, v7 = (x4 + 6) → (K v7 S I4 J3 (k + 1) (n + 6)))) ∧ (r1 = 0 → (vp_in 0 1 ∧ (((lg_cmp (J3 79 (0 : Int32).toNatClampNeg) ((r5).toInt64)) = 0 → (∀ v8 : Int32, v8 = (x4 + 6) → (K v8 S I4 J3 (k + 1) (n + 6)))) ∧ (¬ (lg_cmp (J3 79 (0 : Int32).toNatClampNeg) ((r5).toInt64)) = 0 → post 0)))))) ∧ (¬ r6 = r1 → post 0)))))))))) := h
  refine V_aload_n dL_law_1439 rfl rfl ?_
  refine V_aload_n dL_law_1440 rfl rfl ?_
  refine V_iload dL_law_1441 rfl ?_
  refine V_iconst (v := 1) dL_law_1443 (by decide) ?_
  refine V_iadd dL_law_1444 ?_
  obtain ⟨hb, h⟩ := h
  refine V_sld dL_law_1445 hScr hb ?_
  refine V_aload_n dL_law_1446 rfl rfl ?_
  obtain ⟨hk9, hn9, h⟩ := h
  refine V_callSXi (st := []) [.ref 0, .int (X.2.1.2.2 ((x4 + 1)).toNatClampNeg), .ref 79] dL_law_1447 ok_mL_split (by decide) ml_RL_159 st_mL_split (Nat.le_of_ble_eq_true rfl) (by decide) hk9 hn9 (s_mL_split hS h) (fun r1 I2 J3 h => ?_)
  clear hk hn
  have hk := hk9
  have hn := hn9
  refine V_istore (lo2 := [(5, .int r1), (0, .ref 1000000), (1, .ref 0), (2, .ref 51), (3, .ref 79), (4, .int x4)]) dL_law_1450 (by decide) rfl ?_
  refine V_aload_n dL_law_1452 rfl rfl ?_
  refine V_aload_n dL_law_1453 rfl rfl ?_
  refine V_iload dL_law_1454 rfl ?_
  refine V_iconst (v := 1) dL_law_1456 (by decide) ?_
  refine V_iadd dL_law_1457 ?_
  obtain ⟨hb, h⟩ := h
  refine V_sld dL_law_1458 hScr hb ?_
  refine V_callVi (st := []) [.int (X.2.1.2.2 ((x4 + 1)).toNatClampNeg)] dL_law_1459 ok_mX8_split rfl ml_RL_161 in_mX8_split se_mX8_split (hS.n 51 rfl) (hS.k 51 8 rfl) (by decide) rfl (Nat.le_of_ble_eq_true rfl) (by decide) hk hn (s_mX8_split hS h) (fun r5 I4 J9 h => ?_)
  obtain ⟨rfl, h⟩ := h
  refine V_istore (lo2 := [(6, .int r5), (5, .int r1), (0, .ref 1000000), (1, .ref 0), (2, .ref 51), (3, .ref 79), (4, .int x4)]) dL_law_1462 (by decide) rfl ?_
  refine V_aload_n dL_law_1464 rfl rfl ?_
  refine V_callVi (st := []) [] dL_law_1465 ok_mX8_thrown rfl ml_RL_100 in_mX8_thrown se_mX8_thrown (hS.n 51 rfl) (hS.k 51 8 rfl) (by decide) rfl (Nat.le_of_ble_eq_true rfl) (by decide) hk hn (s_mX8_thrown hS h) (fun r6 I9 J9 h => ?_)
  obtain ⟨rfl, rfl, h⟩ := h
  refine V_iload dL_law_1468 rfl ?_
  refine V_icmp_eq 1475 dL_law_1470 rfl (fun hc => ?_) (fun hc => ?_)
  · replace h := h.1 hc
    refine V_iload dL_law_1475 rfl ?_
    refine V_if_ne 1492 dL_law_1477 rfl (fun hc => ?_) (fun hc => ?_)
    · replace h := h.1 hc
      refine V_goto 1779 dL_law_1492 rfl ?_
      obtain ⟨v7, e_v7⟩ : ∃ z : Int32, z = (x4 + 6) := ⟨_, rfl⟩
      replace h := h v7 e_v7
      refine V_iinc (lo2 := [(4, .int v7), (6, .int r5), (5, .int r1), (0, .ref 1000000), (1, .ref 0), (2, .ref 51), (3, .ref 79)]) 6 dL_law_1779 rfl (v := v7) (by rw [e_v7]; first | done | rfl) (by decide) rfl ?_
      refine V_goto 23 dL_law_1782 rfl ?_
      refine V_sub (lo2 := [(0, .ref 1000000), (1, .ref 0), (2, .ref 51), (3, .ref 79), (4, .int v7)]) [3, 4, 5, 6, 0] rfl ?_
      exact hK _ _ _ _ _ _ hA hScr hk hn h
    · replace h := h.2 hc
      refine V_aload_n dL_law_1480 rfl rfl ?_
      refine V_iconst (v := 0) dL_law_1481 (by decide) ?_
      obtain ⟨hb, h⟩ := h
      refine V_lald dL_law_1482 (hS.n 79 rfl) (hS.k 79 10 rfl) (by rw [(hS.z 79 1 rfl)]; exact hb) ?_
      refine V_iload dL_law_1483 rfl ?_
      refine V_i2l dL_law_1485 ?_
      refine V_lcmp dL_law_1486 ?_
      refine V_if_eq 1492 dL_law_1487 rfl (fun hc => ?_) (fun hc => ?_)
      · replace h := h.1 hc
        refine V_goto 1779 dL_law_1492 rfl ?_
        obtain ⟨v8, e_v8⟩ : ∃ z : Int32, z = (x4 + 6) := ⟨_, rfl⟩
        replace h := h v8 e_v8
        refine V_iinc (lo2 := [(4, .int v8), (6, .int r5), (5, .int r1), (0, .ref 1000000), (1, .ref 0), (2, .ref 51), (3, .ref 79)]) 6 dL_law_1779 rfl (v := v8) (by rw [e_v8]; first | done | rfl) (by decide) rfl ?_
        refine V_goto 23 dL_law_1782 rfl ?_
        refine V_sub (lo2 := [(0, .ref 1000000), (1, .ref 0), (2, .ref 51), (3, .ref 79), (4, .int v8)]) [3, 4, 5, 6, 0] rfl ?_
        exact hK _ _ _ _ _ _ hA hScr hk hn h
      · replace h := h.2 hc
        refine V_iconst (v := 0) dL_law_1490 (by decide) ?_
        exact V_zret dL_law_1491 rfl (by decide) hk hn ⟨_, rfl, h⟩
  · replace h := h.2 hc
    refine V_iconst (v := 0) dL_law_1473 (by decide) ?_
    exact V_zret dL_law_1474 rfl (by decide) hk hn ⟨_, rfl, h⟩
def wL_c19 (X : QX) (K : Int32 → QS → QI → QJ → Nat → Nat → Prop) (post : Int32 → Prop) (x4 : Int32) (S : QS) (I : QI) (J : QJ) (k n : Nat) : Prop := (vp_in (x4 + 1) X.2.1.2.1 ∧ (vp_in (x4 + 2) X.2.1.2.1 ∧ (vp_in (x4 + 3) X.2.1.2.1 ∧ (vp_in (x4 + 4) X.2.1.2.1 ∧ (k + 1 ≤ 601024 ∧ n + 6 ≤ 7293034 ∧ wL_view (X.2.1.2.2 ((x4 + 1)).toNatClampNeg) (X.2.1.2.2 ((x4 + 2)).toNatClampNeg) (X.2.1.2.2 ((x4 + 3)).toNatClampNeg) (X.2.1.2.2 ((x4 + 4)).toNatClampNeg) I J (fun r1 I2 J3 => (vp_in (x4 + 1) X.2.1.2.1 ∧ (vp_in (x4 + 2) X.2.1.2.1 ∧ (vp_in (x4 + 3) X.2.1.2.1 ∧ (vp_in (x4 + 4) X.2.1.2.1 ∧ (wX8_view (X.2.1.2.2 ((x4 + 1)).toNatClampNeg) (X.2.1.2.2 ((x4 + 2)).toNatClampNeg) (X.2.1.2.2 ((x4 + 3)).toNatClampNeg) (X.2.1.2.2 ((x4 + 4)).toNatClampNeg) I2 (fun r5 I4 => (wX8_thrown I4 (fun r6 => ((r6 = r1 → ((¬ r1 = 0 → (∀ v7 : Int32, v7 = (x4 + 6) → (K v7 S I4 J3 (k + 1) (n + 6)))) ∧ (r1 = 0 → (vp_in 0 1 ∧ (((lg_cmp (J3 79 (0 : Int32).toNatClampNeg) ((r5).toInt64)) = 0 → (∀ v8 : Int32, v8 = (x4 + 6) → (K v8 S I4 J3 (k + 1) (n + 6)))) ∧ (¬ (lg_cmp (J3 79 (0 : Int32).toNatClampNeg) ((r5).toInt64)) = 0 → post 0)))))) ∧ (¬ r6 = r1 → post 0))))))))))))))))
set_option maxRecDepth 100000 in
set_option maxHeartbeats 4000000 in
theorem swL_c19 {X : QX} {K : Int32 → QS → QI → QJ → Nat → Nat → Prop} {post : Int32 → Prop} (hK : ∀ (i : Int32) (S : QS) (I : QI) (J : QJ) (k n : Nat), Sa S → S.1 1000000 = X.2.1.1 → k ≤ 601024 → n ≤ 7293034 → K i S I J k n → V X mL_law 1000 601024 7293034 (fun o _ _ _ => ∃ r : Int32, o = .inl (some (.int r)) ∧ post r) 23 [(0, .ref 1000000), (1, .ref 0), (2, .ref 51), (3, .ref 79), (4, .int i)] [] S I J k n) {x4 : Int32} {S : QS} {I : QI} {J : QJ} {k n : Nat} (hA : Sa S) (hScr : S.1 1000000 = X.2.1.1) (hk : k ≤ 601024) (hn : n ≤ 7293034) (h : wL_c19 X K post x4 S I J k n) : V X mL_law 1000 601024 7293034 (fun o _ _ _ => ∃ r : Int32, o = .inl (some (.int r)) ∧ post r) 1495 [(0, .ref 1000000), (1, .ref 0), (2, .ref 51), (3, .ref 79), (4, .int x4)] [] S I J k n := by
  have hS := hA.1
  replace h : (vp_in (x4 + 1) X.2.1.2.1 ∧ (vp_in (x4 + 2) X.2.1.2.1 ∧ (vp_in (x4 + 3) X.2.1.2.1 ∧ (vp_in (x4 + 4) X.2.1.2.1 ∧ (k + 1 ≤ 601024 ∧ n + 6 ≤ 7293034 ∧ wL_view (X.2.1.2.2 ((x4 + 1)).toNatClampNeg) (X.2.1.2.2 ((x4 + 2)).toNatClampNeg) (X.2.1.2.2 ((x4 + 3)).toNatClampNeg) (X.2.1.2.2 ((x4 + 4)).toNatClampNeg) I J (fun r1 I2 J3 => (vp_in (x4 + 1) X.2.1.2.1 ∧ (vp_in (x4 + 2) X.2.1.2.1 ∧ (vp_in (x4 + 3) X.2.1.2.1 ∧ (vp_in (x4 + 4) X.2.1.2.1 ∧ (wX8_view (X.2.1.2.2 ((x4 + 1)).toNatClampNeg) (X.2.1.2.2 ((x4 + 2)).toNatClampNeg) (X.2.1.2.2 ((x4 + 3)).toNatClampNeg) (X.2.1.2.2 ((x4 + 4)).toNatClampNeg) I2 (fun r5 I4 => (wX8_thrown I4 (fun r6 => ((r6 = r1 → ((¬ r1 = 0 → (∀ v7 : Int32, v7 = (x4 + 6) → (K v7 S I4 J3 (k + 1) (n + 6)))) ∧ (r1 = 0 → (vp_in 0 1 ∧ (((lg_cmp (J3 79 (0 : Int32).toNatClampNeg) ((r5).toInt64)) = 0 → (∀ v8 : Int32, v8 = (x4 + 6) → (K v8 S I4 J3 (k + 1) (n + 6)))) ∧ (¬ (lg_cmp (J3 79 (0 : Int32).toNatClampNeg) ((r5).toInt64)) = 0 → post 0)))))) ∧ (¬ r6 = r1 → post 0)))))))))))))))) := h
  refine V_aload_n dL_law_1495 rfl rfl ?_
  refine V_aload_n dL_law_1496 rfl rfl ?_
  refine V_iload dL_law_1497 rfl ?_
  refine V_iconst (v := 1) dL_law_1499 (by decide) ?_
  refine V_iadd dL_law_1500 ?_
  obtain ⟨hb, h⟩ := h
  refine V_sld dL_law_1501 hScr hb ?_
  refine V_aload_n dL_law_1502 rfl rfl ?_
  refine V_iload dL_law_1503 rfl ?_
  refine V_iconst (v := 2) dL_law_1505 (by decide) ?_
  refine V_iadd dL_law_1506 ?_
  obtain ⟨hb, h⟩ := h
  refine V_sld dL_law_1507 hScr hb ?_
  refine V_aload_n dL_law_1508 rfl rfl ?_
  refine V_iload dL_law_1509 rfl ?_
  refine V_iconst (v := 3) dL_law_1511 (by decide) ?_
  refine V_iadd dL_law_1512 ?_
  obtain ⟨hb, h⟩ := h
  refine V_sld dL_law_1513 hScr hb ?_
  refine V_aload_n dL_law_1514 rfl rfl ?_
  refine V_iload dL_law_1515 rfl ?_
  refine V_iconst (v := 4) dL_law_1517 (by decide) ?_
  refine V_iadd dL_law_1518 ?_
  obtain ⟨hb, h⟩ := h
  refine V_sld dL_law_1519 hScr hb ?_
  refine V_aload_n dL_law_1520 rfl rfl ?_
  obtain ⟨hk9, hn9, h⟩ := h
  refine V_callSXi (st := []) [.ref 0, .int (X.2.1.2.2 ((x4 + 1)).toNatClampNeg), .int (X.2.1.2.2 ((x4 + 2)).toNatClampNeg), .int (X.2.1.2.2 ((x4 + 3)).toNatClampNeg), .int (X.2.1.2.2 ((x4 + 4)).toNatClampNeg), .ref 79] dL_law_1521 ok_mL_view (by decide) ml_RL_162 st_mL_view (Nat.le_of_ble_eq_true rfl) (by decide) hk9 hn9 (s_mL_view hS h) (fun r1 I2 J3 h => ?_)
  clear hk hn
  have hk := hk9
  have hn := hn9
  refine V_istore (lo2 := [(5, .int r1), (0, .ref 1000000), (1, .ref 0), (2, .ref 51), (3, .ref 79), (4, .int x4)]) dL_law_1524 (by decide) rfl ?_
  refine V_aload_n dL_law_1526 rfl rfl ?_
  refine V_aload_n dL_law_1527 rfl rfl ?_
  refine V_iload dL_law_1528 rfl ?_
  refine V_iconst (v := 1) dL_law_1530 (by decide) ?_
  refine V_iadd dL_law_1531 ?_
  obtain ⟨hb, h⟩ := h
  refine V_sld dL_law_1532 hScr hb ?_
  refine V_aload_n dL_law_1533 rfl rfl ?_
  refine V_iload dL_law_1534 rfl ?_
  refine V_iconst (v := 2) dL_law_1536 (by decide) ?_
  refine V_iadd dL_law_1537 ?_
  obtain ⟨hb, h⟩ := h
  refine V_sld dL_law_1538 hScr hb ?_
  refine V_aload_n dL_law_1539 rfl rfl ?_
  refine V_iload dL_law_1540 rfl ?_
  refine V_iconst (v := 3) dL_law_1542 (by decide) ?_
  refine V_iadd dL_law_1543 ?_
  obtain ⟨hb, h⟩ := h
  refine V_sld dL_law_1544 hScr hb ?_
  refine V_aload_n dL_law_1545 rfl rfl ?_
  refine V_iload dL_law_1546 rfl ?_
  refine V_iconst (v := 4) dL_law_1548 (by decide) ?_
  refine V_iadd dL_law_1549 ?_
  obtain ⟨hb, h⟩ := h
  refine V_sld dL_law_1550 hScr hb ?_
  refine V_callVi (st := []) [.int (X.2.1.2.2 ((x4 + 1)).toNatClampNeg), .int (X.2.1.2.2 ((x4 + 2)).toNatClampNeg), .int (X.2.1.2.2 ((x4 + 3)).toNatClampNeg), .int (X.2.1.2.2 ((x4 + 4)).toNatClampNeg)] dL_law_1551 ok_mX8_view rfl ml_RL_164 in_mX8_view se_mX8_view (hS.n 51 rfl) (hS.k 51 8 rfl) (by decide) rfl (Nat.le_of_ble_eq_true rfl) (by decide) hk hn (s_mX8_view hS h) (fun r5 I4 J9 h => ?_)
  obtain ⟨rfl, h⟩ := h
  refine V_istore (lo2 := [(6, .int r5), (5, .int r1), (0, .ref 1000000), (1, .ref 0), (2, .ref 51), (3, .ref 79), (4, .int x4)]) dL_law_1554 (by decide) rfl ?_
  refine V_aload_n dL_law_1556 rfl rfl ?_
  refine V_callVi (st := []) [] dL_law_1557 ok_mX8_thrown rfl ml_RL_100 in_mX8_thrown se_mX8_thrown (hS.n 51 rfl) (hS.k 51 8 rfl) (by decide) rfl (Nat.le_of_ble_eq_true rfl) (by decide) hk hn (s_mX8_thrown hS h) (fun r6 I9 J9 h => ?_)
  obtain ⟨rfl, rfl, h⟩ := h
  refine V_iload dL_law_1560 rfl ?_
  refine V_icmp_eq 1567 dL_law_1562 rfl (fun hc => ?_) (fun hc => ?_)
  · replace h := h.1 hc
    refine V_iload dL_law_1567 rfl ?_
    refine V_if_ne 1584 dL_law_1569 rfl (fun hc => ?_) (fun hc => ?_)
    · replace h := h.1 hc
      refine V_goto 1779 dL_law_1584 rfl ?_
      obtain ⟨v7, e_v7⟩ : ∃ z : Int32, z = (x4 + 6) := ⟨_, rfl⟩
      replace h := h v7 e_v7
      refine V_iinc (lo2 := [(4, .int v7), (6, .int r5), (5, .int r1), (0, .ref 1000000), (1, .ref 0), (2, .ref 51), (3, .ref 79)]) 6 dL_law_1779 rfl (v := v7) (by rw [e_v7]; first | done | rfl) (by decide) rfl ?_
      refine V_goto 23 dL_law_1782 rfl ?_
      refine V_sub (lo2 := [(0, .ref 1000000), (1, .ref 0), (2, .ref 51), (3, .ref 79), (4, .int v7)]) [3, 4, 5, 6, 0] rfl ?_
      exact hK _ _ _ _ _ _ hA hScr hk hn h
    · replace h := h.2 hc
      refine V_aload_n dL_law_1572 rfl rfl ?_
      refine V_iconst (v := 0) dL_law_1573 (by decide) ?_
      obtain ⟨hb, h⟩ := h
      refine V_lald dL_law_1574 (hS.n 79 rfl) (hS.k 79 10 rfl) (by rw [(hS.z 79 1 rfl)]; exact hb) ?_
      refine V_iload dL_law_1575 rfl ?_
      refine V_i2l dL_law_1577 ?_
      refine V_lcmp dL_law_1578 ?_
      refine V_if_eq 1584 dL_law_1579 rfl (fun hc => ?_) (fun hc => ?_)
      · replace h := h.1 hc
        refine V_goto 1779 dL_law_1584 rfl ?_
        obtain ⟨v8, e_v8⟩ : ∃ z : Int32, z = (x4 + 6) := ⟨_, rfl⟩
        replace h := h v8 e_v8
        refine V_iinc (lo2 := [(4, .int v8), (6, .int r5), (5, .int r1), (0, .ref 1000000), (1, .ref 0), (2, .ref 51), (3, .ref 79)]) 6 dL_law_1779 rfl (v := v8) (by rw [e_v8]; first | done | rfl) (by decide) rfl ?_
        refine V_goto 23 dL_law_1782 rfl ?_
        refine V_sub (lo2 := [(0, .ref 1000000), (1, .ref 0), (2, .ref 51), (3, .ref 79), (4, .int v8)]) [3, 4, 5, 6, 0] rfl ?_
        exact hK _ _ _ _ _ _ hA hScr hk hn h
      · replace h := h.2 hc
        refine V_iconst (v := 0) dL_law_1582 (by decide) ?_
        exact V_zret dL_law_1583 rfl (by decide) hk hn ⟨_, rfl, h⟩
  · replace h := h.2 hc
    refine V_iconst (v := 0) dL_law_1565 (by decide) ?_
    exact V_zret dL_law_1566 rfl (by decide) hk hn ⟨_, rfl, h⟩
def wL_c20 (X : QX) (K : Int32 → QS → QI → QJ → Nat → Nat → Prop) (post : Int32 → Prop) (x4 : Int32) (S : QS) (I : QI) (J : QJ) (k n : Nat) : Prop := (vp_in (x4 + 1) X.2.1.2.1 ∧ (k + 1 ≤ 601024 ∧ n + 6 ≤ 7293034 ∧ wL_different (X.2.1.2.2 ((x4 + 1)).toNatClampNeg) I J (fun r1 J3 => (vp_in (x4 + 1) X.2.1.2.1 ∧ (wX8_different (X.2.1.2.2 ((x4 + 1)).toNatClampNeg) I (fun r5 I4 => (wX8_thrown I4 (fun r6 => ((r6 = r1 → ((¬ r1 = 0 → (∀ v7 : Int32, v7 = (x4 + 6) → (K v7 S I4 J3 (k + 1) (n + 6)))) ∧ (r1 = 0 → (vp_in 0 1 ∧ (((lg_cmp (J3 79 (0 : Int32).toNatClampNeg) ((r5).toInt64)) = 0 → (∀ v8 : Int32, v8 = (x4 + 6) → (K v8 S I4 J3 (k + 1) (n + 6)))) ∧ (¬ (lg_cmp (J3 79 (0 : Int32).toNatClampNeg) ((r5).toInt64)) = 0 → post 0)))))) ∧ (¬ r6 = r1 → post 0))))))))))
set_option maxRecDepth 100000 in
set_option maxHeartbeats 4000000 in
theorem swL_c20 {X : QX} {K : Int32 → QS → QI → QJ → Nat → Nat → Prop} {post : Int32 → Prop} (hK : ∀ (i : Int32) (S : QS) (I : QI) (J : QJ) (k n : Nat), Sa S → S.1 1000000 = X.2.1.1 → k ≤ 601024 → n ≤ 7293034 → K i S I J k n → V X mL_law 1000 601024 7293034 (fun o _ _ _ => ∃ r : Int32, o = .inl (some (.int r)) ∧ post r) 23 [(0, .ref 1000000), (1, .ref 0), (2, .ref 51), (3, .ref 79), (4, .int i)] [] S I J k n) {x4 : Int32} {S : QS} {I : QI} {J : QJ} {k n : Nat} (hA : Sa S) (hScr : S.1 1000000 = X.2.1.1) (hk : k ≤ 601024) (hn : n ≤ 7293034) (h : wL_c20 X K post x4 S I J k n) : V X mL_law 1000 601024 7293034 (fun o _ _ _ => ∃ r : Int32, o = .inl (some (.int r)) ∧ post r) 1587 [(0, .ref 1000000), (1, .ref 0), (2, .ref 51), (3, .ref 79), (4, .int x4)] [] S I J k n := by
  have hS := hA.1
  replace h : (vp_in (x4 + 1) X.2.1.2.1 ∧ (k + 1 ≤ 601024 ∧ n + 6 ≤ 7293034 ∧ wL_different (X.2.1.2.2 ((x4 + 1)).toNatClampNeg) I J (fun r1 J3 => (vp_in (x4 + 1) X.2.1.2.1 ∧ (wX8_different (X.2.1.2.2 ((x4 + 1)).toNatClampNeg) I (fun r5 I4 => (wX8_thrown I4 (fun r6 => ((r6 = r1 → ((¬ r1 = 0 → (∀ v7 : Int32, v7 = (x4 + 6) → (K v7 S I4 J3 (k + 1) (n + 6)))) ∧ (r1 = 0 → (vp_in 0 1 ∧ (((lg_cmp (J3 79 (0 : Int32).toNatClampNeg) ((r5).toInt64)) = 0 → (∀ v8 : Int32, v8 = (x4 + 6) → (K v8 S I4 J3 (k + 1) (n + 6)))) ∧ (¬ (lg_cmp (J3 79 (0 : Int32).toNatClampNeg) ((r5).toInt64)) = 0 → post 0)))))) ∧ (¬ r6 = r1 → post 0)))))))))) := h
  refine V_aload_n dL_law_1587 rfl rfl ?_
  refine V_aload_n dL_law_1588 rfl rfl ?_
  refine V_iload dL_law_1589 rfl ?_
  refine V_iconst (v := 1) dL_law_1591 (by decide) ?_
  refine V_iadd dL_law_1592 ?_
  obtain ⟨hb, h⟩ := h
  refine V_sld dL_law_1593 hScr hb ?_
  refine V_aload_n dL_law_1594 rfl rfl ?_
  obtain ⟨hk9, hn9, h⟩ := h
  refine V_callSXi (st := []) [.ref 0, .int (X.2.1.2.2 ((x4 + 1)).toNatClampNeg), .ref 79] dL_law_1595 ok_mL_different (by decide) ml_RL_165 st_mL_different (Nat.le_of_ble_eq_true rfl) (by decide) hk9 hn9 (s_mL_different hS h) (fun r1 I9 J3 h => ?_)
  clear hk hn
  have hk := hk9
  have hn := hn9
  obtain ⟨rfl, h⟩ := h
  refine V_istore (lo2 := [(5, .int r1), (0, .ref 1000000), (1, .ref 0), (2, .ref 51), (3, .ref 79), (4, .int x4)]) dL_law_1598 (by decide) rfl ?_
  refine V_aload_n dL_law_1600 rfl rfl ?_
  refine V_aload_n dL_law_1601 rfl rfl ?_
  refine V_iload dL_law_1602 rfl ?_
  refine V_iconst (v := 1) dL_law_1604 (by decide) ?_
  refine V_iadd dL_law_1605 ?_
  obtain ⟨hb, h⟩ := h
  refine V_sld dL_law_1606 hScr hb ?_
  refine V_callVi (st := []) [.int (X.2.1.2.2 ((x4 + 1)).toNatClampNeg)] dL_law_1607 ok_mX8_different rfl ml_RL_167 in_mX8_different se_mX8_different (hS.n 51 rfl) (hS.k 51 8 rfl) (by decide) rfl (Nat.le_of_ble_eq_true rfl) (by decide) hk hn (s_mX8_different hS h) (fun r5 I4 J9 h => ?_)
  obtain ⟨rfl, h⟩ := h
  refine V_istore (lo2 := [(6, .int r5), (5, .int r1), (0, .ref 1000000), (1, .ref 0), (2, .ref 51), (3, .ref 79), (4, .int x4)]) dL_law_1610 (by decide) rfl ?_
  refine V_aload_n dL_law_1612 rfl rfl ?_
  refine V_callVi (st := []) [] dL_law_1613 ok_mX8_thrown rfl ml_RL_100 in_mX8_thrown se_mX8_thrown (hS.n 51 rfl) (hS.k 51 8 rfl) (by decide) rfl (Nat.le_of_ble_eq_true rfl) (by decide) hk hn (s_mX8_thrown hS h) (fun r6 I9 J9 h => ?_)
  obtain ⟨rfl, rfl, h⟩ := h
  refine V_iload dL_law_1616 rfl ?_
  refine V_icmp_eq 1623 dL_law_1618 rfl (fun hc => ?_) (fun hc => ?_)
  · replace h := h.1 hc
    refine V_iload dL_law_1623 rfl ?_
    refine V_if_ne 1640 dL_law_1625 rfl (fun hc => ?_) (fun hc => ?_)
    · replace h := h.1 hc
      refine V_goto 1779 dL_law_1640 rfl ?_
      obtain ⟨v7, e_v7⟩ : ∃ z : Int32, z = (x4 + 6) := ⟨_, rfl⟩
      replace h := h v7 e_v7
      refine V_iinc (lo2 := [(4, .int v7), (6, .int r5), (5, .int r1), (0, .ref 1000000), (1, .ref 0), (2, .ref 51), (3, .ref 79)]) 6 dL_law_1779 rfl (v := v7) (by rw [e_v7]; first | done | rfl) (by decide) rfl ?_
      refine V_goto 23 dL_law_1782 rfl ?_
      refine V_sub (lo2 := [(0, .ref 1000000), (1, .ref 0), (2, .ref 51), (3, .ref 79), (4, .int v7)]) [3, 4, 5, 6, 0] rfl ?_
      exact hK _ _ _ _ _ _ hA hScr hk hn h
    · replace h := h.2 hc
      refine V_aload_n dL_law_1628 rfl rfl ?_
      refine V_iconst (v := 0) dL_law_1629 (by decide) ?_
      obtain ⟨hb, h⟩ := h
      refine V_lald dL_law_1630 (hS.n 79 rfl) (hS.k 79 10 rfl) (by rw [(hS.z 79 1 rfl)]; exact hb) ?_
      refine V_iload dL_law_1631 rfl ?_
      refine V_i2l dL_law_1633 ?_
      refine V_lcmp dL_law_1634 ?_
      refine V_if_eq 1640 dL_law_1635 rfl (fun hc => ?_) (fun hc => ?_)
      · replace h := h.1 hc
        refine V_goto 1779 dL_law_1640 rfl ?_
        obtain ⟨v8, e_v8⟩ : ∃ z : Int32, z = (x4 + 6) := ⟨_, rfl⟩
        replace h := h v8 e_v8
        refine V_iinc (lo2 := [(4, .int v8), (6, .int r5), (5, .int r1), (0, .ref 1000000), (1, .ref 0), (2, .ref 51), (3, .ref 79)]) 6 dL_law_1779 rfl (v := v8) (by rw [e_v8]; first | done | rfl) (by decide) rfl ?_
        refine V_goto 23 dL_law_1782 rfl ?_
        refine V_sub (lo2 := [(0, .ref 1000000), (1, .ref 0), (2, .ref 51), (3, .ref 79), (4, .int v8)]) [3, 4, 5, 6, 0] rfl ?_
        exact hK _ _ _ _ _ _ hA hScr hk hn h
      · replace h := h.2 hc
        refine V_iconst (v := 0) dL_law_1638 (by decide) ?_
        exact V_zret dL_law_1639 rfl (by decide) hk hn ⟨_, rfl, h⟩
  · replace h := h.2 hc
    refine V_iconst (v := 0) dL_law_1621 (by decide) ?_
    exact V_zret dL_law_1622 rfl (by decide) hk hn ⟨_, rfl, h⟩
def wL_c21 (X : QX) (K : Int32 → QS → QI → QJ → Nat → Nat → Prop) (post : Int32 → Prop) (x4 : Int32) (S : QS) (I : QI) (J : QJ) (k n : Nat) : Prop := (vp_in (x4 + 1) X.2.1.2.1 ∧ (vp_in (x4 + 2) X.2.1.2.1 ∧ (vp_in (x4 + 3) X.2.1.2.1 ∧ (k + 1 ≤ 601024 ∧ n + 6 ≤ 7293034 ∧ wL_often (X.2.1.2.2 ((x4 + 1)).toNatClampNeg) (X.2.1.2.2 ((x4 + 2)).toNatClampNeg) (X.2.1.2.2 ((x4 + 3)).toNatClampNeg) I J (fun r1 J3 => (vp_in (x4 + 1) X.2.1.2.1 ∧ (vp_in (x4 + 2) X.2.1.2.1 ∧ (vp_in (x4 + 3) X.2.1.2.1 ∧ (wX8_often (X.2.1.2.2 ((x4 + 1)).toNatClampNeg) (X.2.1.2.2 ((x4 + 2)).toNatClampNeg) (X.2.1.2.2 ((x4 + 3)).toNatClampNeg) I (fun r5 I4 => (wX8_thrown I4 (fun r6 => ((r6 = r1 → ((¬ r1 = 0 → (∀ v7 : Int32, v7 = (x4 + 6) → (K v7 S I4 J3 (k + 1) (n + 6)))) ∧ (r1 = 0 → (vp_in 0 1 ∧ (((lg_cmp (J3 79 (0 : Int32).toNatClampNeg) ((r5).toInt64)) = 0 → (∀ v8 : Int32, v8 = (x4 + 6) → (K v8 S I4 J3 (k + 1) (n + 6)))) ∧ (¬ (lg_cmp (J3 79 (0 : Int32).toNatClampNeg) ((r5).toInt64)) = 0 → post 0)))))) ∧ (¬ r6 = r1 → post 0))))))))))))))
set_option maxRecDepth 100000 in
set_option maxHeartbeats 4000000 in
theorem swL_c21 {X : QX} {K : Int32 → QS → QI → QJ → Nat → Nat → Prop} {post : Int32 → Prop} (hK : ∀ (i : Int32) (S : QS) (I : QI) (J : QJ) (k n : Nat), Sa S → S.1 1000000 = X.2.1.1 → k ≤ 601024 → n ≤ 7293034 → K i S I J k n → V X mL_law 1000 601024 7293034 (fun o _ _ _ => ∃ r : Int32, o = .inl (some (.int r)) ∧ post r) 23 [(0, .ref 1000000), (1, .ref 0), (2, .ref 51), (3, .ref 79), (4, .int i)] [] S I J k n) {x4 : Int32} {S : QS} {I : QI} {J : QJ} {k n : Nat} (hA : Sa S) (hScr : S.1 1000000 = X.2.1.1) (hk : k ≤ 601024) (hn : n ≤ 7293034) (h : wL_c21 X K post x4 S I J k n) : V X mL_law 1000 601024 7293034 (fun o _ _ _ => ∃ r : Int32, o = .inl (some (.int r)) ∧ post r) 1643 [(0, .ref 1000000), (1, .ref 0), (2, .ref 51), (3, .ref 79), (4, .int x4)] [] S I J k n := by
  have hS := hA.1
  replace h : (vp_in (x4 + 1) X.2.1.2.1 ∧ (vp_in (x4 + 2) X.2.1.2.1 ∧ (vp_in (x4 + 3) X.2.1.2.1 ∧ (k + 1 ≤ 601024 ∧ n + 6 ≤ 7293034 ∧ wL_often (X.2.1.2.2 ((x4 + 1)).toNatClampNeg) (X.2.1.2.2 ((x4 + 2)).toNatClampNeg) (X.2.1.2.2 ((x4 + 3)).toNatClampNeg) I J (fun r1 J3 => (vp_in (x4 + 1) X.2.1.2.1 ∧ (vp_in (x4 + 2) X.2.1.2.1 ∧ (vp_in (x4 + 3) X.2.1.2.1 ∧ (wX8_often (X.2.1.2.2 ((x4 + 1)).toNatClampNeg) (X.2.1.2.2 ((x4 + 2)).toNatClampNeg) (X.2.1.2.2 ((x4 + 3)).toNatClampNeg) I (fun r5 I4 => (wX8_thrown I4 (fun r6 => ((r6 = r1 → ((¬ r1 = 0 → (∀ v7 : Int32, v7 = (x4 + 6) → (K v7 S I4 J3 (k + 1) (n + 6)))) ∧ (r1 = 0 → (vp_in 0 1 ∧ (((lg_cmp (J3 79 (0 : Int32).toNatClampNeg) ((r5).toInt64)) = 0 → (∀ v8 : Int32, v8 = (x4 + 6) → (K v8 S I4 J3 (k + 1) (n + 6)))) ∧ (¬ (lg_cmp (J3 79 (0 : Int32).toNatClampNeg) ((r5).toInt64)) = 0 → post 0)))))) ∧ (¬ r6 = r1 → post 0)))))))))))))) := h
  refine V_aload_n dL_law_1643 rfl rfl ?_
  refine V_aload_n dL_law_1644 rfl rfl ?_
  refine V_iload dL_law_1645 rfl ?_
  refine V_iconst (v := 1) dL_law_1647 (by decide) ?_
  refine V_iadd dL_law_1648 ?_
  obtain ⟨hb, h⟩ := h
  refine V_sld dL_law_1649 hScr hb ?_
  refine V_aload_n dL_law_1650 rfl rfl ?_
  refine V_iload dL_law_1651 rfl ?_
  refine V_iconst (v := 2) dL_law_1653 (by decide) ?_
  refine V_iadd dL_law_1654 ?_
  obtain ⟨hb, h⟩ := h
  refine V_sld dL_law_1655 hScr hb ?_
  refine V_aload_n dL_law_1656 rfl rfl ?_
  refine V_iload dL_law_1657 rfl ?_
  refine V_iconst (v := 3) dL_law_1659 (by decide) ?_
  refine V_iadd dL_law_1660 ?_
  obtain ⟨hb, h⟩ := h
  refine V_sld dL_law_1661 hScr hb ?_
  refine V_aload_n dL_law_1662 rfl rfl ?_
  obtain ⟨hk9, hn9, h⟩ := h
  refine V_callSXi (st := []) [.ref 0, .int (X.2.1.2.2 ((x4 + 1)).toNatClampNeg), .int (X.2.1.2.2 ((x4 + 2)).toNatClampNeg), .int (X.2.1.2.2 ((x4 + 3)).toNatClampNeg), .ref 79] dL_law_1663 ok_mL_often (by decide) ml_RL_168 st_mL_often (Nat.le_of_ble_eq_true rfl) (by decide) hk9 hn9 (s_mL_often hS h) (fun r1 I9 J3 h => ?_)
  clear hk hn
  have hk := hk9
  have hn := hn9
  obtain ⟨rfl, h⟩ := h
  refine V_istore (lo2 := [(5, .int r1), (0, .ref 1000000), (1, .ref 0), (2, .ref 51), (3, .ref 79), (4, .int x4)]) dL_law_1666 (by decide) rfl ?_
  refine V_aload_n dL_law_1668 rfl rfl ?_
  refine V_aload_n dL_law_1669 rfl rfl ?_
  refine V_iload dL_law_1670 rfl ?_
  refine V_iconst (v := 1) dL_law_1672 (by decide) ?_
  refine V_iadd dL_law_1673 ?_
  obtain ⟨hb, h⟩ := h
  refine V_sld dL_law_1674 hScr hb ?_
  refine V_aload_n dL_law_1675 rfl rfl ?_
  refine V_iload dL_law_1676 rfl ?_
  refine V_iconst (v := 2) dL_law_1678 (by decide) ?_
  refine V_iadd dL_law_1679 ?_
  obtain ⟨hb, h⟩ := h
  refine V_sld dL_law_1680 hScr hb ?_
  refine V_aload_n dL_law_1681 rfl rfl ?_
  refine V_iload dL_law_1682 rfl ?_
  refine V_iconst (v := 3) dL_law_1684 (by decide) ?_
  refine V_iadd dL_law_1685 ?_
  obtain ⟨hb, h⟩ := h
  refine V_sld dL_law_1686 hScr hb ?_
  refine V_callVi (st := []) [.int (X.2.1.2.2 ((x4 + 1)).toNatClampNeg), .int (X.2.1.2.2 ((x4 + 2)).toNatClampNeg), .int (X.2.1.2.2 ((x4 + 3)).toNatClampNeg)] dL_law_1687 ok_mX8_often rfl ml_RL_170 in_mX8_often se_mX8_often (hS.n 51 rfl) (hS.k 51 8 rfl) (by decide) rfl (Nat.le_of_ble_eq_true rfl) (by decide) hk hn (s_mX8_often hS h) (fun r5 I4 J9 h => ?_)
  obtain ⟨rfl, h⟩ := h
  refine V_istore (lo2 := [(6, .int r5), (5, .int r1), (0, .ref 1000000), (1, .ref 0), (2, .ref 51), (3, .ref 79), (4, .int x4)]) dL_law_1690 (by decide) rfl ?_
  refine V_aload_n dL_law_1692 rfl rfl ?_
  refine V_callVi (st := []) [] dL_law_1693 ok_mX8_thrown rfl ml_RL_100 in_mX8_thrown se_mX8_thrown (hS.n 51 rfl) (hS.k 51 8 rfl) (by decide) rfl (Nat.le_of_ble_eq_true rfl) (by decide) hk hn (s_mX8_thrown hS h) (fun r6 I9 J9 h => ?_)
  obtain ⟨rfl, rfl, h⟩ := h
  refine V_iload dL_law_1696 rfl ?_
  refine V_icmp_eq 1703 dL_law_1698 rfl (fun hc => ?_) (fun hc => ?_)
  · replace h := h.1 hc
    refine V_iload dL_law_1703 rfl ?_
    refine V_if_ne 1720 dL_law_1705 rfl (fun hc => ?_) (fun hc => ?_)
    · replace h := h.1 hc
      refine V_goto 1779 dL_law_1720 rfl ?_
      obtain ⟨v7, e_v7⟩ : ∃ z : Int32, z = (x4 + 6) := ⟨_, rfl⟩
      replace h := h v7 e_v7
      refine V_iinc (lo2 := [(4, .int v7), (6, .int r5), (5, .int r1), (0, .ref 1000000), (1, .ref 0), (2, .ref 51), (3, .ref 79)]) 6 dL_law_1779 rfl (v := v7) (by rw [e_v7]; first | done | rfl) (by decide) rfl ?_
      refine V_goto 23 dL_law_1782 rfl ?_
      refine V_sub (lo2 := [(0, .ref 1000000), (1, .ref 0), (2, .ref 51), (3, .ref 79), (4, .int v7)]) [3, 4, 5, 6, 0] rfl ?_
      exact hK _ _ _ _ _ _ hA hScr hk hn h
    · replace h := h.2 hc
      refine V_aload_n dL_law_1708 rfl rfl ?_
      refine V_iconst (v := 0) dL_law_1709 (by decide) ?_
      obtain ⟨hb, h⟩ := h
      refine V_lald dL_law_1710 (hS.n 79 rfl) (hS.k 79 10 rfl) (by rw [(hS.z 79 1 rfl)]; exact hb) ?_
      refine V_iload dL_law_1711 rfl ?_
      refine V_i2l dL_law_1713 ?_
      refine V_lcmp dL_law_1714 ?_
      refine V_if_eq 1720 dL_law_1715 rfl (fun hc => ?_) (fun hc => ?_)
      · replace h := h.1 hc
        refine V_goto 1779 dL_law_1720 rfl ?_
        obtain ⟨v8, e_v8⟩ : ∃ z : Int32, z = (x4 + 6) := ⟨_, rfl⟩
        replace h := h v8 e_v8
        refine V_iinc (lo2 := [(4, .int v8), (6, .int r5), (5, .int r1), (0, .ref 1000000), (1, .ref 0), (2, .ref 51), (3, .ref 79)]) 6 dL_law_1779 rfl (v := v8) (by rw [e_v8]; first | done | rfl) (by decide) rfl ?_
        refine V_goto 23 dL_law_1782 rfl ?_
        refine V_sub (lo2 := [(0, .ref 1000000), (1, .ref 0), (2, .ref 51), (3, .ref 79), (4, .int v8)]) [3, 4, 5, 6, 0] rfl ?_
        exact hK _ _ _ _ _ _ hA hScr hk hn h
      · replace h := h.2 hc
        refine V_iconst (v := 0) dL_law_1718 (by decide) ?_
        exact V_zret dL_law_1719 rfl (by decide) hk hn ⟨_, rfl, h⟩
  · replace h := h.2 hc
    refine V_iconst (v := 0) dL_law_1701 (by decide) ?_
    exact V_zret dL_law_1702 rfl (by decide) hk hn ⟨_, rfl, h⟩
def wL_c22 (X : QX) (K : Int32 → QS → QI → QJ → Nat → Nat → Prop) (post : Int32 → Prop) (x4 : Int32) (S : QS) (I : QI) (J : QJ) (k n : Nat) : Prop := (vp_in (x4 + 1) X.2.1.2.1 ∧ (k + 1 ≤ 601024 ∧ n + 6 ≤ 7293034 ∧ wL_ways (X.2.1.2.2 ((x4 + 1)).toNatClampNeg) I J (fun r1 I2 J3 => (vp_in (x4 + 1) X.2.1.2.1 ∧ (wX8_ways (X.2.1.2.2 ((x4 + 1)).toNatClampNeg) I2 (fun r5 I4 => (wX8_thrown I4 (fun r6 => ((r6 = r1 → ((¬ r1 = 0 → (∀ v7 : Int32, v7 = (x4 + 6) → (K v7 S I4 J3 (k + 1) (n + 6)))) ∧ (r1 = 0 → (vp_in 0 1 ∧ (((lg_cmp (J3 79 (0 : Int32).toNatClampNeg) ((r5).toInt64)) = 0 → (∀ v8 : Int32, v8 = (x4 + 6) → (K v8 S I4 J3 (k + 1) (n + 6)))) ∧ (¬ (lg_cmp (J3 79 (0 : Int32).toNatClampNeg) ((r5).toInt64)) = 0 → post 0)))))) ∧ (¬ r6 = r1 → post 0))))))))))
set_option maxRecDepth 100000 in
set_option maxHeartbeats 4000000 in
theorem swL_c22 {X : QX} {K : Int32 → QS → QI → QJ → Nat → Nat → Prop} {post : Int32 → Prop} (hK : ∀ (i : Int32) (S : QS) (I : QI) (J : QJ) (k n : Nat), Sa S → S.1 1000000 = X.2.1.1 → k ≤ 601024 → n ≤ 7293034 → K i S I J k n → V X mL_law 1000 601024 7293034 (fun o _ _ _ => ∃ r : Int32, o = .inl (some (.int r)) ∧ post r) 23 [(0, .ref 1000000), (1, .ref 0), (2, .ref 51), (3, .ref 79), (4, .int i)] [] S I J k n) {x4 : Int32} {S : QS} {I : QI} {J : QJ} {k n : Nat} (hA : Sa S) (hScr : S.1 1000000 = X.2.1.1) (hk : k ≤ 601024) (hn : n ≤ 7293034) (h : wL_c22 X K post x4 S I J k n) : V X mL_law 1000 601024 7293034 (fun o _ _ _ => ∃ r : Int32, o = .inl (some (.int r)) ∧ post r) 1723 [(0, .ref 1000000), (1, .ref 0), (2, .ref 51), (3, .ref 79), (4, .int x4)] [] S I J k n := by
  have hS := hA.1
  replace h : (vp_in (x4 + 1) X.2.1.2.1 ∧ (k + 1 ≤ 601024 ∧ n + 6 ≤ 7293034 ∧ wL_ways (X.2.1.2.2 ((x4 + 1)).toNatClampNeg) I J (fun r1 I2 J3 => (vp_in (x4 + 1) X.2.1.2.1 ∧ (wX8_ways (X.2.1.2.2 ((x4 + 1)).toNatClampNeg) I2 (fun r5 I4 => (wX8_thrown I4 (fun r6 => ((r6 = r1 → ((¬ r1 = 0 → (∀ v7 : Int32, v7 = (x4 + 6) → (K v7 S I4 J3 (k + 1) (n + 6)))) ∧ (r1 = 0 → (vp_in 0 1 ∧ (((lg_cmp (J3 79 (0 : Int32).toNatClampNeg) ((r5).toInt64)) = 0 → (∀ v8 : Int32, v8 = (x4 + 6) → (K v8 S I4 J3 (k + 1) (n + 6)))) ∧ (¬ (lg_cmp (J3 79 (0 : Int32).toNatClampNeg) ((r5).toInt64)) = 0 → post 0)))))) ∧ (¬ r6 = r1 → post 0)))))))))) := h
  refine V_aload_n dL_law_1723 rfl rfl ?_
  refine V_aload_n dL_law_1724 rfl rfl ?_
  refine V_iload dL_law_1725 rfl ?_
  refine V_iconst (v := 1) dL_law_1727 (by decide) ?_
  refine V_iadd dL_law_1728 ?_
  obtain ⟨hb, h⟩ := h
  refine V_sld dL_law_1729 hScr hb ?_
  refine V_aload_n dL_law_1730 rfl rfl ?_
  obtain ⟨hk9, hn9, h⟩ := h
  refine V_callSXi (st := []) [.ref 0, .int (X.2.1.2.2 ((x4 + 1)).toNatClampNeg), .ref 79] dL_law_1731 ok_mL_ways (by decide) ml_RL_171 st_mL_ways (Nat.le_of_ble_eq_true rfl) (by decide) hk9 hn9 (s_mL_ways hS h) (fun r1 I2 J3 h => ?_)
  clear hk hn
  have hk := hk9
  have hn := hn9
  refine V_istore (lo2 := [(5, .int r1), (0, .ref 1000000), (1, .ref 0), (2, .ref 51), (3, .ref 79), (4, .int x4)]) dL_law_1734 (by decide) rfl ?_
  refine V_aload_n dL_law_1736 rfl rfl ?_
  refine V_aload_n dL_law_1737 rfl rfl ?_
  refine V_iload dL_law_1738 rfl ?_
  refine V_iconst (v := 1) dL_law_1740 (by decide) ?_
  refine V_iadd dL_law_1741 ?_
  obtain ⟨hb, h⟩ := h
  refine V_sld dL_law_1742 hScr hb ?_
  refine V_callVi (st := []) [.int (X.2.1.2.2 ((x4 + 1)).toNatClampNeg)] dL_law_1743 ok_mX8_ways rfl ml_RL_173 in_mX8_ways se_mX8_ways (hS.n 51 rfl) (hS.k 51 8 rfl) (by decide) rfl (Nat.le_of_ble_eq_true rfl) (by decide) hk hn (s_mX8_ways hS h) (fun r5 I4 J9 h => ?_)
  obtain ⟨rfl, h⟩ := h
  refine V_istore (lo2 := [(6, .int r5), (5, .int r1), (0, .ref 1000000), (1, .ref 0), (2, .ref 51), (3, .ref 79), (4, .int x4)]) dL_law_1746 (by decide) rfl ?_
  refine V_aload_n dL_law_1748 rfl rfl ?_
  refine V_callVi (st := []) [] dL_law_1749 ok_mX8_thrown rfl ml_RL_100 in_mX8_thrown se_mX8_thrown (hS.n 51 rfl) (hS.k 51 8 rfl) (by decide) rfl (Nat.le_of_ble_eq_true rfl) (by decide) hk hn (s_mX8_thrown hS h) (fun r6 I9 J9 h => ?_)
  obtain ⟨rfl, rfl, h⟩ := h
  refine V_iload dL_law_1752 rfl ?_
  refine V_icmp_eq 1759 dL_law_1754 rfl (fun hc => ?_) (fun hc => ?_)
  · replace h := h.1 hc
    refine V_iload dL_law_1759 rfl ?_
    refine V_if_ne 1776 dL_law_1761 rfl (fun hc => ?_) (fun hc => ?_)
    · replace h := h.1 hc
      refine V_goto 1779 dL_law_1776 rfl ?_
      obtain ⟨v7, e_v7⟩ : ∃ z : Int32, z = (x4 + 6) := ⟨_, rfl⟩
      replace h := h v7 e_v7
      refine V_iinc (lo2 := [(4, .int v7), (6, .int r5), (5, .int r1), (0, .ref 1000000), (1, .ref 0), (2, .ref 51), (3, .ref 79)]) 6 dL_law_1779 rfl (v := v7) (by rw [e_v7]; first | done | rfl) (by decide) rfl ?_
      refine V_goto 23 dL_law_1782 rfl ?_
      refine V_sub (lo2 := [(0, .ref 1000000), (1, .ref 0), (2, .ref 51), (3, .ref 79), (4, .int v7)]) [3, 4, 5, 6, 0] rfl ?_
      exact hK _ _ _ _ _ _ hA hScr hk hn h
    · replace h := h.2 hc
      refine V_aload_n dL_law_1764 rfl rfl ?_
      refine V_iconst (v := 0) dL_law_1765 (by decide) ?_
      obtain ⟨hb, h⟩ := h
      refine V_lald dL_law_1766 (hS.n 79 rfl) (hS.k 79 10 rfl) (by rw [(hS.z 79 1 rfl)]; exact hb) ?_
      refine V_iload dL_law_1767 rfl ?_
      refine V_i2l dL_law_1769 ?_
      refine V_lcmp dL_law_1770 ?_
      refine V_if_eq 1776 dL_law_1771 rfl (fun hc => ?_) (fun hc => ?_)
      · replace h := h.1 hc
        refine V_goto 1779 dL_law_1776 rfl ?_
        obtain ⟨v8, e_v8⟩ : ∃ z : Int32, z = (x4 + 6) := ⟨_, rfl⟩
        replace h := h v8 e_v8
        refine V_iinc (lo2 := [(4, .int v8), (6, .int r5), (5, .int r1), (0, .ref 1000000), (1, .ref 0), (2, .ref 51), (3, .ref 79)]) 6 dL_law_1779 rfl (v := v8) (by rw [e_v8]; first | done | rfl) (by decide) rfl ?_
        refine V_goto 23 dL_law_1782 rfl ?_
        refine V_sub (lo2 := [(0, .ref 1000000), (1, .ref 0), (2, .ref 51), (3, .ref 79), (4, .int v8)]) [3, 4, 5, 6, 0] rfl ?_
        exact hK _ _ _ _ _ _ hA hScr hk hn h
      · replace h := h.2 hc
        refine V_iconst (v := 0) dL_law_1774 (by decide) ?_
        exact V_zret dL_law_1775 rfl (by decide) hk hn ⟨_, rfl, h⟩
  · replace h := h.2 hc
    refine V_iconst (v := 0) dL_law_1757 (by decide) ?_
    exact V_zret dL_law_1758 rfl (by decide) hk hn ⟨_, rfl, h⟩
def wL_loop (X : QX) (post : Int32 → Prop) : Nat → Int32 → QS → QI → QJ → Nat → Nat → Prop
  | 0, _, _, _, _, _, _ => False
  | f + 1, x4, S, I, J, k, n => (((Int32.ofNat X.2.1.2.1) - 6 < x4 → post 1) ∧ (¬ (Int32.ofNat X.2.1.2.1) - 6 < x4 → (vp_in x4 X.2.1.2.1 ∧ ((X.2.1.2.2 (x4).toNatClampNeg &&& 31) = 0 → wL_c0 X (wL_loop X post f) post x4 S I J k n) ∧ ((X.2.1.2.2 (x4).toNatClampNeg &&& 31) = 1 → wL_c1 X (wL_loop X post f) post x4 S I J k n) ∧ ((X.2.1.2.2 (x4).toNatClampNeg &&& 31) = 2 → wL_c2 X (wL_loop X post f) post x4 S I J k n) ∧ ((X.2.1.2.2 (x4).toNatClampNeg &&& 31) = 3 → wL_c3 X (wL_loop X post f) post x4 S I J k n) ∧ ((X.2.1.2.2 (x4).toNatClampNeg &&& 31) = 4 → wL_c4 X (wL_loop X post f) post x4 S I J k n) ∧ ((X.2.1.2.2 (x4).toNatClampNeg &&& 31) = 5 → wL_c5 X (wL_loop X post f) post x4 S I J k n) ∧ ((X.2.1.2.2 (x4).toNatClampNeg &&& 31) = 6 → wL_c6 X (wL_loop X post f) post x4 S I J k n) ∧ ((X.2.1.2.2 (x4).toNatClampNeg &&& 31) = 7 → wL_c7 X (wL_loop X post f) post x4 S I J k n) ∧ ((X.2.1.2.2 (x4).toNatClampNeg &&& 31) = 8 → wL_c8 X (wL_loop X post f) post x4 S I J k n) ∧ ((X.2.1.2.2 (x4).toNatClampNeg &&& 31) = 9 → wL_c9 X (wL_loop X post f) post x4 S I J k n) ∧ ((X.2.1.2.2 (x4).toNatClampNeg &&& 31) = 10 → wL_c10 X (wL_loop X post f) post x4 S I J k n) ∧ ((X.2.1.2.2 (x4).toNatClampNeg &&& 31) = 11 → wL_c11 X (wL_loop X post f) post x4 S I J k n) ∧ ((X.2.1.2.2 (x4).toNatClampNeg &&& 31) = 12 → wL_c12 X (wL_loop X post f) post x4 S I J k n) ∧ ((X.2.1.2.2 (x4).toNatClampNeg &&& 31) = 13 → wL_c13 X (wL_loop X post f) post x4 S I J k n) ∧ ((X.2.1.2.2 (x4).toNatClampNeg &&& 31) = 14 → wL_c14 X (wL_loop X post f) post x4 S I J k n) ∧ ((X.2.1.2.2 (x4).toNatClampNeg &&& 31) = 15 → wL_c15 X (wL_loop X post f) post x4 S I J k n) ∧ ((X.2.1.2.2 (x4).toNatClampNeg &&& 31) = 16 → wL_c16 X (wL_loop X post f) post x4 S I J k n) ∧ ((X.2.1.2.2 (x4).toNatClampNeg &&& 31) = 17 → wL_c17 X (wL_loop X post f) post x4 S I J k n) ∧ ((X.2.1.2.2 (x4).toNatClampNeg &&& 31) = 18 → wL_c18 X (wL_loop X post f) post x4 S I J k n) ∧ ((X.2.1.2.2 (x4).toNatClampNeg &&& 31) = 19 → wL_c19 X (wL_loop X post f) post x4 S I J k n) ∧ ((X.2.1.2.2 (x4).toNatClampNeg &&& 31) = 20 → wL_c20 X (wL_loop X post f) post x4 S I J k n) ∧ ((X.2.1.2.2 (x4).toNatClampNeg &&& 31) = 21 → wL_c21 X (wL_loop X post f) post x4 S I J k n) ∧ ((X.2.1.2.2 (x4).toNatClampNeg &&& 31) = 22 → wL_c22 X (wL_loop X post f) post x4 S I J k n) ∧ (¬ (X.2.1.2.2 (x4).toNatClampNeg &&& 31) = 0 → ¬ (X.2.1.2.2 (x4).toNatClampNeg &&& 31) = 1 → ¬ (X.2.1.2.2 (x4).toNatClampNeg &&& 31) = 2 → ¬ (X.2.1.2.2 (x4).toNatClampNeg &&& 31) = 3 → ¬ (X.2.1.2.2 (x4).toNatClampNeg &&& 31) = 4 → ¬ (X.2.1.2.2 (x4).toNatClampNeg &&& 31) = 5 → ¬ (X.2.1.2.2 (x4).toNatClampNeg &&& 31) = 6 → ¬ (X.2.1.2.2 (x4).toNatClampNeg &&& 31) = 7 → ¬ (X.2.1.2.2 (x4).toNatClampNeg &&& 31) = 8 → ¬ (X.2.1.2.2 (x4).toNatClampNeg &&& 31) = 9 → ¬ (X.2.1.2.2 (x4).toNatClampNeg &&& 31) = 10 → ¬ (X.2.1.2.2 (x4).toNatClampNeg &&& 31) = 11 → ¬ (X.2.1.2.2 (x4).toNatClampNeg &&& 31) = 12 → ¬ (X.2.1.2.2 (x4).toNatClampNeg &&& 31) = 13 → ¬ (X.2.1.2.2 (x4).toNatClampNeg &&& 31) = 14 → ¬ (X.2.1.2.2 (x4).toNatClampNeg &&& 31) = 15 → ¬ (X.2.1.2.2 (x4).toNatClampNeg &&& 31) = 16 → ¬ (X.2.1.2.2 (x4).toNatClampNeg &&& 31) = 17 → ¬ (X.2.1.2.2 (x4).toNatClampNeg &&& 31) = 18 → ¬ (X.2.1.2.2 (x4).toNatClampNeg &&& 31) = 19 → ¬ (X.2.1.2.2 (x4).toNatClampNeg &&& 31) = 20 → ¬ (X.2.1.2.2 (x4).toNatClampNeg &&& 31) = 21 → ¬ (X.2.1.2.2 (x4).toNatClampNeg &&& 31) = 22 → ∀ v : Int32, v = x4 + 6 → wL_loop X post f v S I J k n))))
set_option maxRecDepth 100000 in
set_option maxHeartbeats 4000000 in
theorem swL_loop {X : QX} {post : Int32 → Prop} : ∀ (f : Nat) (x4 : Int32) (S : QS) (I : QI) (J : QJ) (k n : Nat), Sa S → S.1 1000000 = X.2.1.1 → k ≤ 601024 → n ≤ 7293034 → wL_loop X post f x4 S I J k n → V X mL_law 1000 601024 7293034 (fun o _ _ _ => ∃ r : Int32, o = .inl (some (.int r)) ∧ post r) 23 [(0, .ref 1000000), (1, .ref 0), (2, .ref 51), (3, .ref 79), (4, .int x4)] [] S I J k n := by
  intro f
  induction f with
  | zero => intro x4 S I J k n _ _ _ _ h; exact h.elim
  | succ f ih =>
    replace ih : ∀ (i : Int32) (S : QS) (I : QI) (J : QJ) (k n : Nat), Sa S → S.1 1000000 = X.2.1.1 → k ≤ 601024 → n ≤ 7293034 → wL_loop X post f i S I J k n → V X mL_law 1000 601024 7293034 (fun o _ _ _ => ∃ r : Int32, o = .inl (some (.int r)) ∧ post r) 23 [(0, .ref 1000000), (1, .ref 0), (2, .ref 51), (3, .ref 79), (4, .int i)] [] S I J k n := ih
    intro x4 S I J k n hA hScr hk hn h
    have hS := hA.1
    replace h : (((Int32.ofNat X.2.1.2.1) - 6 < x4 → post 1) ∧ (¬ (Int32.ofNat X.2.1.2.1) - 6 < x4 → (vp_in x4 X.2.1.2.1 ∧ ((X.2.1.2.2 (x4).toNatClampNeg &&& 31) = 0 → wL_c0 X (wL_loop X post f) post x4 S I J k n) ∧ ((X.2.1.2.2 (x4).toNatClampNeg &&& 31) = 1 → wL_c1 X (wL_loop X post f) post x4 S I J k n) ∧ ((X.2.1.2.2 (x4).toNatClampNeg &&& 31) = 2 → wL_c2 X (wL_loop X post f) post x4 S I J k n) ∧ ((X.2.1.2.2 (x4).toNatClampNeg &&& 31) = 3 → wL_c3 X (wL_loop X post f) post x4 S I J k n) ∧ ((X.2.1.2.2 (x4).toNatClampNeg &&& 31) = 4 → wL_c4 X (wL_loop X post f) post x4 S I J k n) ∧ ((X.2.1.2.2 (x4).toNatClampNeg &&& 31) = 5 → wL_c5 X (wL_loop X post f) post x4 S I J k n) ∧ ((X.2.1.2.2 (x4).toNatClampNeg &&& 31) = 6 → wL_c6 X (wL_loop X post f) post x4 S I J k n) ∧ ((X.2.1.2.2 (x4).toNatClampNeg &&& 31) = 7 → wL_c7 X (wL_loop X post f) post x4 S I J k n) ∧ ((X.2.1.2.2 (x4).toNatClampNeg &&& 31) = 8 → wL_c8 X (wL_loop X post f) post x4 S I J k n) ∧ ((X.2.1.2.2 (x4).toNatClampNeg &&& 31) = 9 → wL_c9 X (wL_loop X post f) post x4 S I J k n) ∧ ((X.2.1.2.2 (x4).toNatClampNeg &&& 31) = 10 → wL_c10 X (wL_loop X post f) post x4 S I J k n) ∧ ((X.2.1.2.2 (x4).toNatClampNeg &&& 31) = 11 → wL_c11 X (wL_loop X post f) post x4 S I J k n) ∧ ((X.2.1.2.2 (x4).toNatClampNeg &&& 31) = 12 → wL_c12 X (wL_loop X post f) post x4 S I J k n) ∧ ((X.2.1.2.2 (x4).toNatClampNeg &&& 31) = 13 → wL_c13 X (wL_loop X post f) post x4 S I J k n) ∧ ((X.2.1.2.2 (x4).toNatClampNeg &&& 31) = 14 → wL_c14 X (wL_loop X post f) post x4 S I J k n) ∧ ((X.2.1.2.2 (x4).toNatClampNeg &&& 31) = 15 → wL_c15 X (wL_loop X post f) post x4 S I J k n) ∧ ((X.2.1.2.2 (x4).toNatClampNeg &&& 31) = 16 → wL_c16 X (wL_loop X post f) post x4 S I J k n) ∧ ((X.2.1.2.2 (x4).toNatClampNeg &&& 31) = 17 → wL_c17 X (wL_loop X post f) post x4 S I J k n) ∧ ((X.2.1.2.2 (x4).toNatClampNeg &&& 31) = 18 → wL_c18 X (wL_loop X post f) post x4 S I J k n) ∧ ((X.2.1.2.2 (x4).toNatClampNeg &&& 31) = 19 → wL_c19 X (wL_loop X post f) post x4 S I J k n) ∧ ((X.2.1.2.2 (x4).toNatClampNeg &&& 31) = 20 → wL_c20 X (wL_loop X post f) post x4 S I J k n) ∧ ((X.2.1.2.2 (x4).toNatClampNeg &&& 31) = 21 → wL_c21 X (wL_loop X post f) post x4 S I J k n) ∧ ((X.2.1.2.2 (x4).toNatClampNeg &&& 31) = 22 → wL_c22 X (wL_loop X post f) post x4 S I J k n) ∧ (¬ (X.2.1.2.2 (x4).toNatClampNeg &&& 31) = 0 → ¬ (X.2.1.2.2 (x4).toNatClampNeg &&& 31) = 1 → ¬ (X.2.1.2.2 (x4).toNatClampNeg &&& 31) = 2 → ¬ (X.2.1.2.2 (x4).toNatClampNeg &&& 31) = 3 → ¬ (X.2.1.2.2 (x4).toNatClampNeg &&& 31) = 4 → ¬ (X.2.1.2.2 (x4).toNatClampNeg &&& 31) = 5 → ¬ (X.2.1.2.2 (x4).toNatClampNeg &&& 31) = 6 → ¬ (X.2.1.2.2 (x4).toNatClampNeg &&& 31) = 7 → ¬ (X.2.1.2.2 (x4).toNatClampNeg &&& 31) = 8 → ¬ (X.2.1.2.2 (x4).toNatClampNeg &&& 31) = 9 → ¬ (X.2.1.2.2 (x4).toNatClampNeg &&& 31) = 10 → ¬ (X.2.1.2.2 (x4).toNatClampNeg &&& 31) = 11 → ¬ (X.2.1.2.2 (x4).toNatClampNeg &&& 31) = 12 → ¬ (X.2.1.2.2 (x4).toNatClampNeg &&& 31) = 13 → ¬ (X.2.1.2.2 (x4).toNatClampNeg &&& 31) = 14 → ¬ (X.2.1.2.2 (x4).toNatClampNeg &&& 31) = 15 → ¬ (X.2.1.2.2 (x4).toNatClampNeg &&& 31) = 16 → ¬ (X.2.1.2.2 (x4).toNatClampNeg &&& 31) = 17 → ¬ (X.2.1.2.2 (x4).toNatClampNeg &&& 31) = 18 → ¬ (X.2.1.2.2 (x4).toNatClampNeg &&& 31) = 19 → ¬ (X.2.1.2.2 (x4).toNatClampNeg &&& 31) = 20 → ¬ (X.2.1.2.2 (x4).toNatClampNeg &&& 31) = 21 → ¬ (X.2.1.2.2 (x4).toNatClampNeg &&& 31) = 22 → ∀ v : Int32, v = x4 + 6 → wL_loop X post f v S I J k n)))) := h
    refine V_iload dL_law_23 rfl ?_
    refine V_aload_n dL_law_25 rfl rfl ?_
    refine V_slen dL_law_26 hScr ?_
    refine V_bipush (v := 6) dL_law_27 (by decide) ?_
    refine V_isub dL_law_29 ?_
    refine V_icmp_gt 1785 dL_law_30 rfl (fun hc => ?_) (fun hc => ?_)
    · replace h := h.1 hc
      refine V_iconst (v := 1) dL_law_1785 (by decide) ?_
      exact V_zret dL_law_1786 rfl (by decide) hk hn ⟨_, rfl, h⟩
    · replace h := h.2 hc
      obtain ⟨hb, h⟩ := h
      refine V_aload_n dL_law_33 rfl rfl ?_
      refine V_iload dL_law_34 rfl ?_
      refine V_sld dL_law_36 hScr hb ?_
      refine V_bipush (v := 31) dL_law_37 (by decide) ?_
      refine V_iand dL_law_39 ?_
      by_cases hc0 : (X.2.1.2.2 (x4).toNatClampNeg &&& 31) = 0
      · replace h := h.1 hc0
        refine V_tableIn 148 dL_law_40 (by rw [hc0]; decide) (by rw [hc0]; decide) (by rw [hc0]; first | done | rfl) rfl ?_
        exact swL_c0 ih hA hScr hk hn h
      by_cases hc1 : (X.2.1.2.2 (x4).toNatClampNeg &&& 31) = 1
      · replace h := h.2.1 hc1
        refine V_tableIn 204 dL_law_40 (by rw [hc1]; decide) (by rw [hc1]; decide) (by rw [hc1]; first | done | rfl) rfl ?_
        exact swL_c1 ih hA hScr hk hn h
      by_cases hc2 : (X.2.1.2.2 (x4).toNatClampNeg &&& 31) = 2
      · replace h := h.2.2.1 hc2
        refine V_tableIn 296 dL_law_40 (by rw [hc2]; decide) (by rw [hc2]; decide) (by rw [hc2]; first | done | rfl) rfl ?_
        exact swL_c2 ih hA hScr hk hn h
      by_cases hc3 : (X.2.1.2.2 (x4).toNatClampNeg &&& 31) = 3
      · replace h := h.2.2.2.1 hc3
        refine V_tableIn 364 dL_law_40 (by rw [hc3]; decide) (by rw [hc3]; decide) (by rw [hc3]; first | done | rfl) rfl ?_
        exact swL_c3 ih hA hScr hk hn h
      by_cases hc4 : (X.2.1.2.2 (x4).toNatClampNeg &&& 31) = 4
      · replace h := h.2.2.2.2.1 hc4
        refine V_tableIn 420 dL_law_40 (by rw [hc4]; decide) (by rw [hc4]; decide) (by rw [hc4]; first | done | rfl) rfl ?_
        exact swL_c4 ih hA hScr hk hn h
      by_cases hc5 : (X.2.1.2.2 (x4).toNatClampNeg &&& 31) = 5
      · replace h := h.2.2.2.2.2.1 hc5
        refine V_tableIn 512 dL_law_40 (by rw [hc5]; decide) (by rw [hc5]; decide) (by rw [hc5]; first | done | rfl) rfl ?_
        exact swL_c5 ih hA hScr hk hn h
      by_cases hc6 : (X.2.1.2.2 (x4).toNatClampNeg &&& 31) = 6
      · replace h := h.2.2.2.2.2.2.1 hc6
        refine V_tableIn 616 dL_law_40 (by rw [hc6]; decide) (by rw [hc6]; decide) (by rw [hc6]; first | done | rfl) rfl ?_
        exact swL_c6 ih hA hScr hk hn h
      by_cases hc7 : (X.2.1.2.2 (x4).toNatClampNeg &&& 31) = 7
      · replace h := h.2.2.2.2.2.2.2.1 hc7
        refine V_tableIn 708 dL_law_40 (by rw [hc7]; decide) (by rw [hc7]; decide) (by rw [hc7]; first | done | rfl) rfl ?_
        exact swL_c7 ih hA hScr hk hn h
      by_cases hc8 : (X.2.1.2.2 (x4).toNatClampNeg &&& 31) = 8
      · replace h := h.2.2.2.2.2.2.2.2.1 hc8
        refine V_tableIn 788 dL_law_40 (by rw [hc8]; decide) (by rw [hc8]; decide) (by rw [hc8]; first | done | rfl) rfl ?_
        exact swL_c8 ih hA hScr hk hn h
      by_cases hc9 : (X.2.1.2.2 (x4).toNatClampNeg &&& 31) = 9
      · replace h := h.2.2.2.2.2.2.2.2.2.1 hc9
        refine V_tableIn 844 dL_law_40 (by rw [hc9]; decide) (by rw [hc9]; decide) (by rw [hc9]; first | done | rfl) rfl ?_
        exact swL_c9 ih hA hScr hk hn h
      by_cases hc10 : (X.2.1.2.2 (x4).toNatClampNeg &&& 31) = 10
      · replace h := h.2.2.2.2.2.2.2.2.2.2.1 hc10
        refine V_tableIn 924 dL_law_40 (by rw [hc10]; decide) (by rw [hc10]; decide) (by rw [hc10]; first | done | rfl) rfl ?_
        exact swL_c10 ih hA hScr hk hn h
      by_cases hc11 : (X.2.1.2.2 (x4).toNatClampNeg &&& 31) = 11
      · replace h := h.2.2.2.2.2.2.2.2.2.2.2.1 hc11
        refine V_tableIn 999 dL_law_40 (by rw [hc11]; decide) (by rw [hc11]; decide) (by rw [hc11]; first | done | rfl) rfl ?_
        exact swL_c11 ih hA hScr hk hn h
      by_cases hc12 : (X.2.1.2.2 (x4).toNatClampNeg &&& 31) = 12
      · replace h := h.2.2.2.2.2.2.2.2.2.2.2.2.1 hc12
        refine V_tableIn 1055 dL_law_40 (by rw [hc12]; decide) (by rw [hc12]; decide) (by rw [hc12]; first | done | rfl) rfl ?_
        exact swL_c12 ih hA hScr hk hn h
      by_cases hc13 : (X.2.1.2.2 (x4).toNatClampNeg &&& 31) = 13
      · replace h := h.2.2.2.2.2.2.2.2.2.2.2.2.2.1 hc13
        refine V_tableIn 1111 dL_law_40 (by rw [hc13]; decide) (by rw [hc13]; decide) (by rw [hc13]; first | done | rfl) rfl ?_
        exact swL_c13 ih hA hScr hk hn h
      by_cases hc14 : (X.2.1.2.2 (x4).toNatClampNeg &&& 31) = 14
      · replace h := h.2.2.2.2.2.2.2.2.2.2.2.2.2.2.1 hc14
        refine V_tableIn 1167 dL_law_40 (by rw [hc14]; decide) (by rw [hc14]; decide) (by rw [hc14]; first | done | rfl) rfl ?_
        exact swL_c14 ih hA hScr hk hn h
      by_cases hc15 : (X.2.1.2.2 (x4).toNatClampNeg &&& 31) = 15
      · replace h := h.2.2.2.2.2.2.2.2.2.2.2.2.2.2.2.1 hc15
        refine V_tableIn 1235 dL_law_40 (by rw [hc15]; decide) (by rw [hc15]; decide) (by rw [hc15]; first | done | rfl) rfl ?_
        exact swL_c15 ih hA hScr hk hn h
      by_cases hc16 : (X.2.1.2.2 (x4).toNatClampNeg &&& 31) = 16
      · replace h := h.2.2.2.2.2.2.2.2.2.2.2.2.2.2.2.2.1 hc16
        refine V_tableIn 1327 dL_law_40 (by rw [hc16]; decide) (by rw [hc16]; decide) (by rw [hc16]; first | done | rfl) rfl ?_
        exact swL_c16 ih hA hScr hk hn h
      by_cases hc17 : (X.2.1.2.2 (x4).toNatClampNeg &&& 31) = 17
      · replace h := h.2.2.2.2.2.2.2.2.2.2.2.2.2.2.2.2.2.1 hc17
        refine V_tableIn 1383 dL_law_40 (by rw [hc17]; decide) (by rw [hc17]; decide) (by rw [hc17]; first | done | rfl) rfl ?_
        exact swL_c17 ih hA hScr hk hn h
      by_cases hc18 : (X.2.1.2.2 (x4).toNatClampNeg &&& 31) = 18
      · replace h := h.2.2.2.2.2.2.2.2.2.2.2.2.2.2.2.2.2.2.1 hc18
        refine V_tableIn 1439 dL_law_40 (by rw [hc18]; decide) (by rw [hc18]; decide) (by rw [hc18]; first | done | rfl) rfl ?_
        exact swL_c18 ih hA hScr hk hn h
      by_cases hc19 : (X.2.1.2.2 (x4).toNatClampNeg &&& 31) = 19
      · replace h := h.2.2.2.2.2.2.2.2.2.2.2.2.2.2.2.2.2.2.2.1 hc19
        refine V_tableIn 1495 dL_law_40 (by rw [hc19]; decide) (by rw [hc19]; decide) (by rw [hc19]; first | done | rfl) rfl ?_
        exact swL_c19 ih hA hScr hk hn h
      by_cases hc20 : (X.2.1.2.2 (x4).toNatClampNeg &&& 31) = 20
      · replace h := h.2.2.2.2.2.2.2.2.2.2.2.2.2.2.2.2.2.2.2.2.1 hc20
        refine V_tableIn 1587 dL_law_40 (by rw [hc20]; decide) (by rw [hc20]; decide) (by rw [hc20]; first | done | rfl) rfl ?_
        exact swL_c20 ih hA hScr hk hn h
      by_cases hc21 : (X.2.1.2.2 (x4).toNatClampNeg &&& 31) = 21
      · replace h := h.2.2.2.2.2.2.2.2.2.2.2.2.2.2.2.2.2.2.2.2.2.1 hc21
        refine V_tableIn 1643 dL_law_40 (by rw [hc21]; decide) (by rw [hc21]; decide) (by rw [hc21]; first | done | rfl) rfl ?_
        exact swL_c21 ih hA hScr hk hn h
      by_cases hc22 : (X.2.1.2.2 (x4).toNatClampNeg &&& 31) = 22
      · replace h := h.2.2.2.2.2.2.2.2.2.2.2.2.2.2.2.2.2.2.2.2.2.2.1 hc22
        refine V_tableIn 1723 dL_law_40 (by rw [hc22]; decide) (by rw [hc22]; decide) (by rw [hc22]; first | done | rfl) rfl ?_
        exact swL_c22 ih hA hScr hk hn h
      replace h := h.2.2.2.2.2.2.2.2.2.2.2.2.2.2.2.2.2.2.2.2.2.2.2 hc0 hc1 hc2 hc3 hc4 hc5 hc6 hc7 hc8 hc9 hc10 hc11 hc12 hc13 hc14 hc15 hc16 hc17 hc18 hc19 hc20 hc21 hc22
      have n0 := q_tsw (c := 0) hc0 (by decide) (by decide)
      have n1 := q_tsw (c := 1) hc1 (by decide) (by decide)
      have n2 := q_tsw (c := 2) hc2 (by decide) (by decide)
      have n3 := q_tsw (c := 3) hc3 (by decide) (by decide)
      have n4 := q_tsw (c := 4) hc4 (by decide) (by decide)
      have n5 := q_tsw (c := 5) hc5 (by decide) (by decide)
      have n6 := q_tsw (c := 6) hc6 (by decide) (by decide)
      have n7 := q_tsw (c := 7) hc7 (by decide) (by decide)
      have n8 := q_tsw (c := 8) hc8 (by decide) (by decide)
      have n9 := q_tsw (c := 9) hc9 (by decide) (by decide)
      have n10 := q_tsw (c := 10) hc10 (by decide) (by decide)
      have n11 := q_tsw (c := 11) hc11 (by decide) (by decide)
      have n12 := q_tsw (c := 12) hc12 (by decide) (by decide)
      have n13 := q_tsw (c := 13) hc13 (by decide) (by decide)
      have n14 := q_tsw (c := 14) hc14 (by decide) (by decide)
      have n15 := q_tsw (c := 15) hc15 (by decide) (by decide)
      have n16 := q_tsw (c := 16) hc16 (by decide) (by decide)
      have n17 := q_tsw (c := 17) hc17 (by decide) (by decide)
      have n18 := q_tsw (c := 18) hc18 (by decide) (by decide)
      have n19 := q_tsw (c := 19) hc19 (by decide) (by decide)
      have n20 := q_tsw (c := 20) hc20 (by decide) (by decide)
      have n21 := q_tsw (c := 21) hc21 (by decide) (by decide)
      have n22 := q_tsw (c := 22) hc22 (by decide) (by decide)
      refine V_tableOut 1779 dL_law_40 (by omega) rfl ?_
      obtain ⟨v, e_v⟩ : ∃ z : Int32, z = x4 + 6 := ⟨_, rfl⟩
      replace h := h v e_v
      refine V_iinc (lo2 := [(4, .int v), (0, .ref 1000000), (1, .ref 0), (2, .ref 51), (3, .ref 79)]) 4 dL_law_1779 rfl (v := v) (by rw [e_v]; first | done | rfl) (by decide) rfl ?_
      refine V_goto 23 dL_law_1782 rfl ?_
      refine V_sub (lo2 := [(0, .ref 1000000), (1, .ref 0), (2, .ref 51), (3, .ref 79), (4, .int v)]) [1, 2, 3, 4, 0] rfl ?_
      exact ih _ _ _ _ _ _ hA hScr hk hn h
def wL_start (X : QX) (post : Int32 → Prop) (S : QS) (I : QI) (J : QJ) : Prop := (∀ a2 : Nat, ∀ S1 : QS, S1 = q_nS S a2 7 0 → (∀ I3 : QI, I3 = q_rw I 0 (fun _ => 0) → (w_X7_init_at0 S1 I3 J (fun S4 I5 J6 => (∀ a8 : Nat, ∀ S7 : QS, S7 = q_nS S4 a8 8 0 → (∀ I9 : QI, I9 = q_rw I5 51 (fun _ => 0) → (w_X8_init_at51 S7 I9 J6 (fun S10 I11 J12 => (∀ a14 : Nat, ∀ S13 : QS, S13 = q_nS S10 a14 10 1 → (∀ J15 : QJ, J15 = q_rw J12 79 (fun _ => 0) → (Sa S13 ∧ ∃ f : Nat, wL_loop X post f 0 S13 I11 J15 80 68345)))))))))))
set_option maxRecDepth 100000 in
set_option maxHeartbeats 4000000 in
theorem swL_start {X : QX} {post : Int32 → Prop} {S : QS} {I : QI} {J : QJ} (hN : S.2.1 = 0) (hc : q_cl S) (hScr : S.1 1000000 = X.2.1.1) (h : wL_start X post S I J) : V X mL_law 1000 601024 7293034 (fun o _ _ _ => ∃ r : Int32, o = .inl (some (.int r)) ∧ post r) 0 [(0, .ref 1000000)] [] S I J 0 0 := by
  have hN0 := hN
  have hE : Ex S S := Ex.rf
  have hR : q_Rk 1000001 S S := q_Rk.rf
  replace h : (∀ a2 : Nat, ∀ S1 : QS, S1 = q_nS S a2 7 0 → (∀ I3 : QI, I3 = q_rw I 0 (fun _ => 0) → (w_X7_init_at0 S1 I3 J (fun S4 I5 J6 => (∀ a8 : Nat, ∀ S7 : QS, S7 = q_nS S4 a8 8 0 → (∀ I9 : QI, I9 = q_rw I5 51 (fun _ => 0) → (w_X8_init_at51 S7 I9 J6 (fun S10 I11 J12 => (∀ a14 : Nat, ∀ S13 : QS, S13 = q_nS S10 a14 10 1 → (∀ J15 : QJ, J15 = q_rw J12 79 (fun _ => 0) → (Sa S13 ∧ ∃ f : Nat, wL_loop X post f 0 S13 I11 J15 80 68345))))))))))) := h
  refine V_new (ci := 7) dL_law_0 (by decide) cl_RL_8 is_RX7 ii_RX7 (by rw [hN]; decide) hc (q_vbn hN rfl) (q_vbn hN rfl) (by decide) (by decide) (fun a2 => ?_)
  rw [hN]
  refine V_memS (fun S1 e_S1 => ?_)
  refine V_memI (fun I3 e_I3 => ?_)
  replace h := h a2 S1 e_S1 I3 e_I3
  have hM9 := hN
  have hN9 : S1.2.1 = 1 := by rw [e_S1]; show _ + 1 = 1; rw [hN]
  have hc9 : q_cl S1 := by rw [e_S1]; exact q_cl_new hc _ _ _
  have hE9 : Ex S S1 := by rw [e_S1]; exact hE.tr (Ex.new _ (by rw [hN]; decide) _ _ _)
  have hR9 : q_Rk 1000001 S S1 := by rw [e_S1]; exact hR.new hE.1 _ _ _
  clear hc hE hR 
  have hN := hN9
  have hc := hc9
  have hE := hE9
  have hR := hR9
  have hK0 : S1.2.2.1 0 = 7 := by rw [e_S1]; exact if_pos hM9.symm
  clear hM9
  refine V_dup dL_law_3 rfl ?_
  refine V_callIk (st := [.ref 0]) [] dL_law_4 ok_mX7_init rfl ml_RL_90 in_mX7_init rfl rfl (Nat.le_of_ble_eq_true rfl) (by decide) (by decide) (by decide) (q_vbn hN rfl) (q_vbn hN rfl) (s_X7_init_at0 hN hc hK0 h) (fun S4 I5 J6 hE8 hc8 hN8 hR8 h => ?_)
  have hN9 : S4.2.1 = 51 := by rw [hN8, hN]
  have hE9 := hE.tr hE8
  have hR9 := hR.call hE hR8 (by rw [hN0]; decide)
  have hK09 : S4.2.2.1 0 = 7 := (hE8.2.1 0 (by rw [hN]; decide)).2.1.trans hK0
  clear hc hE hR hK0  
  have hN := hN9
  have hc := hc8
  have hE := hE9
  have hR := hR9
  have hK0 := hK09
  refine V_astore_n (lo2 := [(1, .ref 0), (0, .ref 1000000)]) dL_law_7 rfl (by decide) rfl ?_
  refine V_new (ci := 8) dL_law_8 (by decide) cl_RL_91 is_RX8 ii_RX8 (by rw [hN]; decide) hc (q_vbn hN rfl) (q_vbn hN rfl) (by decide) (by decide) (fun a8 => ?_)
  rw [hN]
  refine V_memS (fun S7 e_S7 => ?_)
  refine V_memI (fun I9 e_I9 => ?_)
  replace h := h a8 S7 e_S7 I9 e_I9
  have hM9 := hN
  have hN9 : S7.2.1 = 52 := by rw [e_S7]; show _ + 1 = 52; rw [hN]
  have hc9 : q_cl S7 := by rw [e_S7]; exact q_cl_new hc _ _ _
  have hE9 : Ex S S7 := by rw [e_S7]; exact hE.tr (Ex.new _ (by rw [hN]; decide) _ _ _)
  have hR9 : q_Rk 1000001 S S7 := by rw [e_S7]; exact hR.new hE.1 _ _ _
  have hK09 : S7.2.2.1 0 = 7 := by rw [e_S7]; exact (if_neg (by rw [hN]; decide)).trans hK0
  clear hc hE hR hK0  
  have hN := hN9
  have hc := hc9
  have hE := hE9
  have hR := hR9
  have hK0 := hK09
  have hK51 : S7.2.2.1 51 = 8 := by rw [e_S7]; exact if_pos hM9.symm
  clear hM9
  refine V_dup dL_law_11 rfl ?_
  refine V_callIk (st := [.ref 51]) [] dL_law_12 ok_mX8_init rfl ml_RL_93 in_mX8_init rfl rfl (Nat.le_of_ble_eq_true rfl) (by decide) (by decide) (by decide) (q_vbn hN rfl) (q_vbn hN rfl) (s_X8_init_at51 hN hc hK51 h) (fun S10 I11 J12 hE8 hc8 hN8 hR8 h => ?_)
  have hN9 : S10.2.1 = 79 := by rw [hN8, hN]
  have hE9 := hE.tr hE8
  have hR9 := hR.call hE hR8 (by rw [hN0]; decide)
  have hK09 : S10.2.2.1 0 = 7 := (hE8.2.1 0 (by rw [hN]; decide)).2.1.trans hK0
  have hK519 : S10.2.2.1 51 = 8 := (hE8.2.1 51 (by rw [hN]; decide)).2.1.trans hK51
  clear hc hE hR hK0 hK51  
  have hN := hN9
  have hc := hc8
  have hE := hE9
  have hR := hR9
  have hK0 := hK09
  have hK51 := hK519
  refine V_astore_n (lo2 := [(2, .ref 51), (1, .ref 0), (0, .ref 1000000)]) dL_law_15 rfl (by decide) rfl ?_
  refine V_iconst (v := 1) dL_law_16 (by decide) ?_
  refine V_newJ (z := 1) dL_law_17 ac_long (by decide) (by decide) (by decide) (by rw [hN]; decide) hc (q_vbn hN rfl) (q_vbn hN rfl) (by decide) (by decide) (fun a14 => ?_)
  rw [hN]
  refine V_memS (fun S13 e_S13 => ?_)
  refine V_memJ (fun J15 e_J15 => ?_)
  replace h := h a14 S13 e_S13 J15 e_J15
  have hM9 := hN
  have hN9 : S13.2.1 = 80 := by rw [e_S13]; show _ + 1 = 80; rw [hN]
  have hc9 : q_cl S13 := by rw [e_S13]; exact q_cl_new hc _ _ _
  have hE9 : Ex S S13 := by rw [e_S13]; exact hE.tr (Ex.new _ (by rw [hN]; decide) _ _ _)
  have hR9 : q_Rk 1000001 S S13 := by rw [e_S13]; exact hR.new hE.1 _ _ _
  have hK09 : S13.2.2.1 0 = 7 := by rw [e_S13]; exact (if_neg (by rw [hN]; decide)).trans hK0
  have hK519 : S13.2.2.1 51 = 8 := by rw [e_S13]; exact (if_neg (by rw [hN]; decide)).trans hK51
  clear hc hE hR hK0 hK51  
  have hN := hN9
  have hc := hc9
  have hE := hE9
  have hR := hR9
  have hK0 := hK09
  have hK51 := hK519
  clear hM9
  refine V_astore_n (lo2 := [(3, .ref 79), (2, .ref 51), (1, .ref 0), (0, .ref 1000000)]) dL_law_19 rfl (by decide) rfl ?_
  refine V_iconst (v := 0) dL_law_20 (by decide) ?_
  refine V_istore (lo2 := [(4, .int 0), (3, .ref 79), (2, .ref 51), (1, .ref 0), (0, .ref 1000000)]) dL_law_21 (by decide) rfl ?_
  refine V_sub (lo2 := [(0, .ref 1000000), (1, .ref 0), (2, .ref 51), (3, .ref 79), (4, .int 0)]) [4, 3, 2, 1, 0] rfl ?_
  obtain ⟨hA, f9, h⟩ := h
  exact swL_loop f9 0 _ _ _ _ _ hA ((hE.2.2 1000000 (by decide)).trans hScr) (by decide) (by decide) h
