def wL_areNodesSo_301 (g1 : Nat) (g2 : Nat) (K15 : Int32 → Int32 → QI → Nat → Nat → Prop) (post : Int32 → QI → Prop) (x1 : Int32) (x4 : Int32) (I : QI) (kc : Nat) (nc : Nat) : Prop := (∀ v10 : Int32, v10 = (x4 + 1) → (K15 x1 v10 I kc nc))
set_option maxRecDepth 100000 in
set_option maxHeartbeats 4000000 in
theorem swL_areNodesSo_301 {X : QX} {S : QS} {g1 : Nat} {g2 : Nat} {J : QJ} {K15 : Int32 → Int32 → QI → Nat → Nat → Prop} {post : Int32 → QI → Prop} (hS : Sh S) (hNg1 : g1 < S.2.1) (hKg1 : S.2.2.1 g1 = 9) (hZg1 : S.2.2.2.1 g1 = 24) (hNg2 : g2 < S.2.1) (hKg2 : S.2.2.1 g2 = 9) (hZg2 : S.2.2.2.1 g2 = 24) (hK15 : ∀ (z1 : Int32) (z4 : Int32) (I : QI) (kc : Nat) (nc : Nat), kc ≤ 400 → nc ≤ 3000 → K15 z1 z4 I kc nc → V X mL_areNodesSo 9 400 3000 (q_Pi S (fun r I2 J2 => J = J2 ∧ post r I2)) 15 [(0, .ref 0), (1, .int z1), (2, .ref g1), (3, .ref g2), (4, .int z4)] [] S I J kc nc) : ∀ (x1 : Int32) (x4 : Int32) (I : QI) (kc : Nat) (nc : Nat), kc ≤ 400 → nc ≤ 3000 → wL_areNodesSo_301 g1 g2 K15 post x1 x4 I kc nc → V X mL_areNodesSo 9 400 3000 (q_Pi S (fun r I2 J2 => J = J2 ∧ post r I2)) 301 [(0, .ref 0), (1, .int x1), (2, .ref g1), (3, .ref g2), (4, .int x4)] [] S I J kc nc := by
  intro x1 x4 I kc nc hk hn h
  replace h : (∀ v10 : Int32, v10 = (x4 + 1) → (K15 x1 v10 I kc nc)) := h
  obtain ⟨v10, e_v10⟩ : ∃ z : Int32, z = (x4 + 1) := ⟨_, rfl⟩
  replace h := h v10 e_v10
  refine V_iinc (lo2 := [(4, .int v10), (0, .ref 0), (1, .int x1), (2, .ref g1), (3, .ref g2)]) 4 dL_areNodesSo_301 rfl (v := v10) (by rw [e_v10]; first | done | rfl) (by decide) rfl ?_
  refine V_goto 15 dL_areNodesSo_304 rfl ?_
  refine V_sub (lo2 := [(0, .ref 0), (1, .int x1), (2, .ref g1), (3, .ref g2), (4, .int v10)]) [1, 2, 3, 4, 0] rfl ?_
  exact hK15 _ _ _ _ _ hk hn h
def wL_areNodesSo_111 (g1 : Nat) (g2 : Nat) (K124 : Int32 → Int32 → Int32 → Int32 → Int32 → Int32 → Int32 → QI → Nat → Nat → Prop) (post : Int32 → QI → Prop) (x4 : Int32) (x5 : Int32) (x6 : Int32) (x7 : Int32) (x8 : Int32) (y0 : Int32) (I : QI) (kc : Nat) (nc : Nat) : Prop := ((y0 = 0 → (K124 y0 x4 x5 x6 x7 x8 0 I kc nc)) ∧ (¬ y0 = 0 → (vp_in x7 24 ∧ (K124 y0 x4 x5 x6 x7 x8 (I g1 (x7).toNatClampNeg) I kc nc))))
set_option maxRecDepth 100000 in
set_option maxHeartbeats 4000000 in
theorem swL_areNodesSo_111 {X : QX} {S : QS} {g1 : Nat} {g2 : Nat} {J : QJ} {K124 : Int32 → Int32 → Int32 → Int32 → Int32 → Int32 → Int32 → QI → Nat → Nat → Prop} {post : Int32 → QI → Prop} (hS : Sh S) (hNg1 : g1 < S.2.1) (hKg1 : S.2.2.1 g1 = 9) (hZg1 : S.2.2.2.1 g1 = 24) (hNg2 : g2 < S.2.1) (hKg2 : S.2.2.1 g2 = 9) (hZg2 : S.2.2.2.1 g2 = 24) (hK124 : ∀ (z1 : Int32) (z4 : Int32) (z5 : Int32) (z6 : Int32) (z7 : Int32) (z8 : Int32) (w0 : Int32) (I : QI) (kc : Nat) (nc : Nat), kc ≤ 400 → nc ≤ 3000 → K124 z1 z4 z5 z6 z7 z8 w0 I kc nc → V X mL_areNodesSo 9 400 3000 (q_Pi S (fun r I2 J2 => J = J2 ∧ post r I2)) 124 [(0, .ref 0), (1, .int z1), (2, .ref g1), (3, .ref g2), (4, .int z4), (5, .int z5), (6, .int z6), (7, .int z7), (8, .int z8)] [.int w0] S I J kc nc) : ∀ (x4 : Int32) (x5 : Int32) (x6 : Int32) (x7 : Int32) (x8 : Int32) (y0 : Int32) (I : QI) (kc : Nat) (nc : Nat), kc ≤ 400 → nc ≤ 3000 → wL_areNodesSo_111 g1 g2 K124 post x4 x5 x6 x7 x8 y0 I kc nc → V X mL_areNodesSo 9 400 3000 (q_Pi S (fun r I2 J2 => J = J2 ∧ post r I2)) 111 [(0, .ref 0), (2, .ref g1), (3, .ref g2), (4, .int x4), (5, .int x5), (6, .int x6), (7, .int x7), (8, .int x8)] [.int y0] S I J kc nc := by
  intro x4 x5 x6 x7 x8 y0 I kc nc hk hn h
  replace h : ((y0 = 0 → (K124 y0 x4 x5 x6 x7 x8 0 I kc nc)) ∧ (¬ y0 = 0 → (vp_in x7 24 ∧ (K124 y0 x4 x5 x6 x7 x8 (I g1 (x7).toNatClampNeg) I kc nc)))) := h
  refine V_istore_n (lo2 := [(1, .int y0), (0, .ref 0), (2, .ref g1), (3, .ref g2), (4, .int x4), (5, .int x5), (6, .int x6), (7, .int x7), (8, .int x8)]) dL_areNodesSo_111 rfl (by decide) rfl ?_
  refine V_iload_n dL_areNodesSo_112 rfl rfl ?_
  refine V_if_eq 123 dL_areNodesSo_113 rfl (fun hc => ?_) (fun hc => ?_)
  · replace h := h.1 hc
    refine V_iconst (v := 0) dL_areNodesSo_123 (by decide) ?_
    refine V_sub (lo2 := [(0, .ref 0), (1, .int y0), (2, .ref g1), (3, .ref g2), (4, .int x4), (5, .int x5), (6, .int x6), (7, .int x7), (8, .int x8)]) [1, 0, 2, 3, 4, 5, 6, 7, 8] rfl ?_
    exact hK124 _ _ _ _ _ _ _ _ _ _ hk hn h
  · replace h := h.2 hc
    refine V_aload_n dL_areNodesSo_116 rfl rfl ?_
    refine V_iload dL_areNodesSo_117 rfl ?_
    obtain ⟨hb, h⟩ := h
    refine V_iald dL_areNodesSo_119 hNg1 hKg1 (by rw [hZg1]; exact hb) ?_
    refine V_goto 124 dL_areNodesSo_120 rfl ?_
    refine V_sub (lo2 := [(0, .ref 0), (1, .int y0), (2, .ref g1), (3, .ref g2), (4, .int x4), (5, .int x5), (6, .int x6), (7, .int x7), (8, .int x8)]) [1, 0, 2, 3, 4, 5, 6, 7, 8] rfl ?_
    exact hK124 _ _ _ _ _ _ _ _ _ _ hk hn h
def wL_areNodesSo_124 (g1 : Nat) (g2 : Nat) (K143 : Int32 → Int32 → Int32 → Int32 → Int32 → Int32 → Int32 → Int32 → QI → Nat → Nat → Prop) (post : Int32 → QI → Prop) (x1 : Int32) (x4 : Int32) (x5 : Int32) (x6 : Int32) (x7 : Int32) (x8 : Int32) (y0 : Int32) (I : QI) (kc : Nat) (nc : Nat) : Prop := ((x8 < 0 → (K143 x1 x4 x5 x6 x7 x8 y0 0 I kc nc)) ∧ (¬ x8 < 0 → ((¬ x1 = 0 → (vp_in x8 24 ∧ (K143 x1 x4 x5 x6 x7 x8 y0 (I g1 (x8).toNatClampNeg) I kc nc))) ∧ (x1 = 0 → (K143 x1 x4 x5 x6 x7 x8 y0 0 I kc nc)))))
set_option maxRecDepth 100000 in
set_option maxHeartbeats 4000000 in
theorem swL_areNodesSo_124 {X : QX} {S : QS} {g1 : Nat} {g2 : Nat} {J : QJ} {K143 : Int32 → Int32 → Int32 → Int32 → Int32 → Int32 → Int32 → Int32 → QI → Nat → Nat → Prop} {post : Int32 → QI → Prop} (hS : Sh S) (hNg1 : g1 < S.2.1) (hKg1 : S.2.2.1 g1 = 9) (hZg1 : S.2.2.2.1 g1 = 24) (hNg2 : g2 < S.2.1) (hKg2 : S.2.2.1 g2 = 9) (hZg2 : S.2.2.2.1 g2 = 24) (hK143 : ∀ (z1 : Int32) (z4 : Int32) (z5 : Int32) (z6 : Int32) (z7 : Int32) (z8 : Int32) (z9 : Int32) (w0 : Int32) (I : QI) (kc : Nat) (nc : Nat), kc ≤ 400 → nc ≤ 3000 → K143 z1 z4 z5 z6 z7 z8 z9 w0 I kc nc → V X mL_areNodesSo 9 400 3000 (q_Pi S (fun r I2 J2 => J = J2 ∧ post r I2)) 143 [(0, .ref 0), (1, .int z1), (2, .ref g1), (3, .ref g2), (4, .int z4), (5, .int z5), (6, .int z6), (7, .int z7), (8, .int z8), (9, .int z9)] [.int w0] S I J kc nc) : ∀ (x1 : Int32) (x4 : Int32) (x5 : Int32) (x6 : Int32) (x7 : Int32) (x8 : Int32) (y0 : Int32) (I : QI) (kc : Nat) (nc : Nat), kc ≤ 400 → nc ≤ 3000 → wL_areNodesSo_124 g1 g2 K143 post x1 x4 x5 x6 x7 x8 y0 I kc nc → V X mL_areNodesSo 9 400 3000 (q_Pi S (fun r I2 J2 => J = J2 ∧ post r I2)) 124 [(0, .ref 0), (1, .int x1), (2, .ref g1), (3, .ref g2), (4, .int x4), (5, .int x5), (6, .int x6), (7, .int x7), (8, .int x8)] [.int y0] S I J kc nc := by
  intro x1 x4 x5 x6 x7 x8 y0 I kc nc hk hn h
  replace h : ((x8 < 0 → (K143 x1 x4 x5 x6 x7 x8 y0 0 I kc nc)) ∧ (¬ x8 < 0 → ((¬ x1 = 0 → (vp_in x8 24 ∧ (K143 x1 x4 x5 x6 x7 x8 y0 (I g1 (x8).toNatClampNeg) I kc nc))) ∧ (x1 = 0 → (K143 x1 x4 x5 x6 x7 x8 y0 0 I kc nc))))) := h
  refine V_istore (lo2 := [(9, .int y0), (0, .ref 0), (1, .int x1), (2, .ref g1), (3, .ref g2), (4, .int x4), (5, .int x5), (6, .int x6), (7, .int x7), (8, .int x8)]) dL_areNodesSo_124 (by decide) rfl ?_
  refine V_iload dL_areNodesSo_126 rfl ?_
  refine V_if_lt 135 dL_areNodesSo_128 rfl (fun hc => ?_) (fun hc => ?_)
  · replace h := h.1 hc
    refine V_iconst (v := 0) dL_areNodesSo_135 (by decide) ?_
    refine V_goto 143 dL_areNodesSo_136 rfl ?_
    refine V_sub (lo2 := [(0, .ref 0), (1, .int x1), (2, .ref g1), (3, .ref g2), (4, .int x4), (5, .int x5), (6, .int x6), (7, .int x7), (8, .int x8), (9, .int y0)]) [1, 2, 3, 4, 5, 6, 7, 8, 9, 0] rfl ?_
    exact hK143 _ _ _ _ _ _ _ _ _ _ _ hk hn h
  · replace h := h.2 hc
    refine V_iload_n dL_areNodesSo_131 rfl rfl ?_
    refine V_if_ne 139 dL_areNodesSo_132 rfl (fun hc => ?_) (fun hc => ?_)
    · replace h := h.1 hc
      refine V_aload_n dL_areNodesSo_139 rfl rfl ?_
      refine V_iload dL_areNodesSo_140 rfl ?_
      obtain ⟨hb, h⟩ := h
      refine V_iald dL_areNodesSo_142 hNg1 hKg1 (by rw [hZg1]; exact hb) ?_
      refine V_sub (lo2 := [(0, .ref 0), (1, .int x1), (2, .ref g1), (3, .ref g2), (4, .int x4), (5, .int x5), (6, .int x6), (7, .int x7), (8, .int x8), (9, .int y0)]) [1, 2, 3, 4, 5, 6, 7, 8, 9, 0] rfl ?_
      exact hK143 _ _ _ _ _ _ _ _ _ _ _ hk hn h
    · replace h := h.2 hc
      refine V_iconst (v := 0) dL_areNodesSo_135 (by decide) ?_
      refine V_goto 143 dL_areNodesSo_136 rfl ?_
      refine V_sub (lo2 := [(0, .ref 0), (1, .int x1), (2, .ref g1), (3, .ref g2), (4, .int x4), (5, .int x5), (6, .int x6), (7, .int x7), (8, .int x8), (9, .int y0)]) [1, 2, 3, 4, 5, 6, 7, 8, 9, 0] rfl ?_
      exact hK143 _ _ _ _ _ _ _ _ _ _ _ hk hn h
def wL_areNodesSo_143 (g1 : Nat) (g2 : Nat) (K173 : Int32 → Int32 → Int32 → Int32 → Int32 → Int32 → Int32 → Int32 → QI → Nat → Nat → Prop) (K208 : Int32 → Int32 → Int32 → Int32 → Int32 → Int32 → QI → Nat → Nat → Prop) (post : Int32 → QI → Prop) (x1 : Int32) (x4 : Int32) (x5 : Int32) (x6 : Int32) (x7 : Int32) (x8 : Int32) (x9 : Int32) (y0 : Int32) (I : QI) (kc : Nat) (nc : Nat) : Prop := ((x1 = 0 → (K208 x4 x5 x6 x9 y0 0 I kc nc)) ∧ (¬ x1 = 0 → (vp_in x4 24 ∧ (vp_in x7 24 ∧ ((0 ≤ x8 → (vp_in x8 24 ∧ (K173 x4 x5 x6 x9 y0 (I g2 (x8).toNatClampNeg) (x5 + (I g2 (x7).toNatClampNeg)) (I g2 (x4).toNatClampNeg) I kc nc))) ∧ (¬ 0 ≤ x8 → (K173 x4 x5 x6 x9 y0 0 (x5 + (I g2 (x7).toNatClampNeg)) (I g2 (x4).toNatClampNeg) I kc nc)))))))
set_option maxRecDepth 100000 in
set_option maxHeartbeats 4000000 in
theorem swL_areNodesSo_143 {X : QX} {S : QS} {g1 : Nat} {g2 : Nat} {J : QJ} {K173 : Int32 → Int32 → Int32 → Int32 → Int32 → Int32 → Int32 → Int32 → QI → Nat → Nat → Prop} {K208 : Int32 → Int32 → Int32 → Int32 → Int32 → Int32 → QI → Nat → Nat → Prop} {post : Int32 → QI → Prop} (hS : Sh S) (hNg1 : g1 < S.2.1) (hKg1 : S.2.2.1 g1 = 9) (hZg1 : S.2.2.2.1 g1 = 24) (hNg2 : g2 < S.2.1) (hKg2 : S.2.2.1 g2 = 9) (hZg2 : S.2.2.2.1 g2 = 24) (hK173 : ∀ (z4 : Int32) (z5 : Int32) (z6 : Int32) (z9 : Int32) (z10 : Int32) (w0 : Int32) (w1 : Int32) (w2 : Int32) (I : QI) (kc : Nat) (nc : Nat), kc ≤ 400 → nc ≤ 3000 → K173 z4 z5 z6 z9 z10 w0 w1 w2 I kc nc → V X mL_areNodesSo 9 400 3000 (q_Pi S (fun r I2 J2 => J = J2 ∧ post r I2)) 173 [(0, .ref 0), (2, .ref g1), (3, .ref g2), (4, .int z4), (5, .int z5), (6, .int z6), (9, .int z9), (10, .int z10)] [.int w0, .int w1, .int w2] S I J kc nc) (hK208 : ∀ (z4 : Int32) (z5 : Int32) (z6 : Int32) (z9 : Int32) (z10 : Int32) (w0 : Int32) (I : QI) (kc : Nat) (nc : Nat), kc ≤ 400 → nc ≤ 3000 → K208 z4 z5 z6 z9 z10 w0 I kc nc → V X mL_areNodesSo 9 400 3000 (q_Pi S (fun r I2 J2 => J = J2 ∧ post r I2)) 208 [(0, .ref 0), (2, .ref g1), (3, .ref g2), (4, .int z4), (5, .int z5), (6, .int z6), (9, .int z9), (10, .int z10)] [.int w0] S I J kc nc) : ∀ (x1 : Int32) (x4 : Int32) (x5 : Int32) (x6 : Int32) (x7 : Int32) (x8 : Int32) (x9 : Int32) (y0 : Int32) (I : QI) (kc : Nat) (nc : Nat), kc ≤ 400 → nc ≤ 3000 → wL_areNodesSo_143 g1 g2 K173 K208 post x1 x4 x5 x6 x7 x8 x9 y0 I kc nc → V X mL_areNodesSo 9 400 3000 (q_Pi S (fun r I2 J2 => J = J2 ∧ post r I2)) 143 [(0, .ref 0), (1, .int x1), (2, .ref g1), (3, .ref g2), (4, .int x4), (5, .int x5), (6, .int x6), (7, .int x7), (8, .int x8), (9, .int x9)] [.int y0] S I J kc nc := by
  intro x1 x4 x5 x6 x7 x8 x9 y0 I kc nc hk hn h
  replace h : ((x1 = 0 → (K208 x4 x5 x6 x9 y0 0 I kc nc)) ∧ (¬ x1 = 0 → (vp_in x4 24 ∧ (vp_in x7 24 ∧ ((0 ≤ x8 → (vp_in x8 24 ∧ (K173 x4 x5 x6 x9 y0 (I g2 (x8).toNatClampNeg) (x5 + (I g2 (x7).toNatClampNeg)) (I g2 (x4).toNatClampNeg) I kc nc))) ∧ (¬ 0 ≤ x8 → (K173 x4 x5 x6 x9 y0 0 (x5 + (I g2 (x7).toNatClampNeg)) (I g2 (x4).toNatClampNeg) I kc nc))))))) := h
  refine V_istore (lo2 := [(10, .int y0), (0, .ref 0), (1, .int x1), (2, .ref g1), (3, .ref g2), (4, .int x4), (5, .int x5), (6, .int x6), (7, .int x7), (8, .int x8), (9, .int x9)]) dL_areNodesSo_143 (by decide) rfl ?_
  refine V_iload_n dL_areNodesSo_145 rfl rfl ?_
  refine V_if_eq 207 dL_areNodesSo_146 rfl (fun hc => ?_) (fun hc => ?_)
  · replace h := h.1 hc
    refine V_iconst (v := 0) dL_areNodesSo_207 (by decide) ?_
    refine V_sub (lo2 := [(0, .ref 0), (2, .ref g1), (3, .ref g2), (4, .int x4), (5, .int x5), (6, .int x6), (9, .int x9), (10, .int y0)]) [1, 3, 4, 5, 6, 7, 10, 0] rfl ?_
    exact hK208 _ _ _ _ _ _ _ _ _ hk hn h
  · replace h := h.2 hc
    refine V_aload_n dL_areNodesSo_149 rfl rfl ?_
    refine V_iload dL_areNodesSo_150 rfl ?_
    obtain ⟨hb, h⟩ := h
    refine V_iald dL_areNodesSo_152 hNg2 hKg2 (by rw [hZg2]; exact hb) ?_
    refine V_iload dL_areNodesSo_153 rfl ?_
    refine V_aload_n dL_areNodesSo_155 rfl rfl ?_
    refine V_iload dL_areNodesSo_156 rfl ?_
    obtain ⟨hb, h⟩ := h
    refine V_iald dL_areNodesSo_158 hNg2 hKg2 (by rw [hZg2]; exact hb) ?_
    refine V_iadd dL_areNodesSo_159 ?_
    refine V_iload dL_areNodesSo_160 rfl ?_
    refine V_if_ge 169 dL_areNodesSo_162 rfl (fun hc => ?_) (fun hc => ?_)
    · replace h := h.1 hc
      refine V_aload_n dL_areNodesSo_169 rfl rfl ?_
      refine V_iload dL_areNodesSo_170 rfl ?_
      obtain ⟨hb, h⟩ := h
      refine V_iald dL_areNodesSo_172 hNg2 hKg2 (by rw [hZg2]; exact hb) ?_
      refine V_sub (lo2 := [(0, .ref 0), (2, .ref g1), (3, .ref g2), (4, .int x4), (5, .int x5), (6, .int x6), (9, .int x9), (10, .int y0)]) [1, 3, 4, 5, 6, 7, 10, 0] rfl ?_
      exact hK173 _ _ _ _ _ _ _ _ _ _ _ hk hn h
    · replace h := h.2 hc
      refine V_iconst (v := 0) dL_areNodesSo_165 (by decide) ?_
      refine V_goto 173 dL_areNodesSo_166 rfl ?_
      refine V_sub (lo2 := [(0, .ref 0), (2, .ref g1), (3, .ref g2), (4, .int x4), (5, .int x5), (6, .int x6), (9, .int x9), (10, .int y0)]) [1, 3, 4, 5, 6, 7, 10, 0] rfl ?_
      exact hK173 _ _ _ _ _ _ _ _ _ _ _ hk hn h
def wL_areNodesSo_173 (g1 : Nat) (g2 : Nat) (K208 : Int32 → Int32 → Int32 → Int32 → Int32 → Int32 → QI → Nat → Nat → Prop) (post : Int32 → QI → Prop) (x4 : Int32) (x5 : Int32) (x6 : Int32) (x9 : Int32) (x10 : Int32) (y0 : Int32) (y1 : Int32) (y2 : Int32) (I : QI) (kc : Nat) (nc : Nat) : Prop := ((¬ y2 = (y1 + y0) → (K208 x4 x5 x6 x9 x10 0 I kc nc)) ∧ (y2 = (y1 + y0) → (kc + 1 ≤ 400 ∧ nc + 6 ≤ 3000 ∧ wL_same x4 x4 I (fun r53 I54 => ((¬ r53 = 1 → (K208 x4 x5 x6 x9 x10 0 I54 (kc + 1) (nc + 6))) ∧ (r53 = 1 → (kc + 1 + 1 ≤ 400 ∧ nc + 6 + 6 ≤ 3000 ∧ wL_value x4 x5 0 I54 (fun r55 I56 => ((¬ r55 = (-99999) → (K208 x4 x5 x6 x9 x10 0 I56 (kc + 1 + 1) (nc + 6 + 6))) ∧ (r55 = (-99999) → (K208 x4 x5 x6 x9 x10 1 I56 (kc + 1 + 1) (nc + 6 + 6))))))))))))
set_option maxRecDepth 100000 in
set_option maxHeartbeats 4000000 in
theorem swL_areNodesSo_173 {X : QX} {S : QS} {g1 : Nat} {g2 : Nat} {J : QJ} {K208 : Int32 → Int32 → Int32 → Int32 → Int32 → Int32 → QI → Nat → Nat → Prop} {post : Int32 → QI → Prop} (hS : Sh S) (hNg1 : g1 < S.2.1) (hKg1 : S.2.2.1 g1 = 9) (hZg1 : S.2.2.2.1 g1 = 24) (hNg2 : g2 < S.2.1) (hKg2 : S.2.2.1 g2 = 9) (hZg2 : S.2.2.2.1 g2 = 24) (hK208 : ∀ (z4 : Int32) (z5 : Int32) (z6 : Int32) (z9 : Int32) (z10 : Int32) (w0 : Int32) (I : QI) (kc : Nat) (nc : Nat), kc ≤ 400 → nc ≤ 3000 → K208 z4 z5 z6 z9 z10 w0 I kc nc → V X mL_areNodesSo 9 400 3000 (q_Pi S (fun r I2 J2 => J = J2 ∧ post r I2)) 208 [(0, .ref 0), (2, .ref g1), (3, .ref g2), (4, .int z4), (5, .int z5), (6, .int z6), (9, .int z9), (10, .int z10)] [.int w0] S I J kc nc) : ∀ (x4 : Int32) (x5 : Int32) (x6 : Int32) (x9 : Int32) (x10 : Int32) (y0 : Int32) (y1 : Int32) (y2 : Int32) (I : QI) (kc : Nat) (nc : Nat), kc ≤ 400 → nc ≤ 3000 → wL_areNodesSo_173 g1 g2 K208 post x4 x5 x6 x9 x10 y0 y1 y2 I kc nc → V X mL_areNodesSo 9 400 3000 (q_Pi S (fun r I2 J2 => J = J2 ∧ post r I2)) 173 [(0, .ref 0), (2, .ref g1), (3, .ref g2), (4, .int x4), (5, .int x5), (6, .int x6), (9, .int x9), (10, .int x10)] [.int y0, .int y1, .int y2] S I J kc nc := by
  intro x4 x5 x6 x9 x10 y0 y1 y2 I kc nc hk hn h
  replace h : ((¬ y2 = (y1 + y0) → (K208 x4 x5 x6 x9 x10 0 I kc nc)) ∧ (y2 = (y1 + y0) → (kc + 1 ≤ 400 ∧ nc + 6 ≤ 3000 ∧ wL_same x4 x4 I (fun r53 I54 => ((¬ r53 = 1 → (K208 x4 x5 x6 x9 x10 0 I54 (kc + 1) (nc + 6))) ∧ (r53 = 1 → (kc + 1 + 1 ≤ 400 ∧ nc + 6 + 6 ≤ 3000 ∧ wL_value x4 x5 0 I54 (fun r55 I56 => ((¬ r55 = (-99999) → (K208 x4 x5 x6 x9 x10 0 I56 (kc + 1 + 1) (nc + 6 + 6))) ∧ (r55 = (-99999) → (K208 x4 x5 x6 x9 x10 1 I56 (kc + 1 + 1) (nc + 6 + 6)))))))))))) := h
  refine V_iadd dL_areNodesSo_173 ?_
  refine V_icmp_ne 207 dL_areNodesSo_174 rfl (fun hc => ?_) (fun hc => ?_)
  · replace h := h.1 hc
    refine V_iconst (v := 0) dL_areNodesSo_207 (by decide) ?_
    exact hK208 _ _ _ _ _ _ _ _ _ hk hn h
  · replace h := h.2 hc
    refine V_aload_n dL_areNodesSo_177 rfl rfl ?_
    refine V_iload dL_areNodesSo_178 rfl ?_
    refine V_iload dL_areNodesSo_180 rfl ?_
    obtain ⟨hk9, hn9, h⟩ := h
    refine V_callSXi (st := []) [.ref 0, .int x4, .int x4] dL_areNodesSo_182 ok_mL_same (by decide) ml_RL_125 st_mL_same (Nat.le_of_ble_eq_true rfl) (by decide) hk9 hn9 (s_mL_same hS h) (fun r53 I54 J9 h => ?_)
    clear hk hn
    have hk := hk9
    have hn := hn9
    obtain ⟨rfl, h⟩ := h
    refine V_iconst (v := 1) dL_areNodesSo_185 (by decide) ?_
    refine V_icmp_ne 207 dL_areNodesSo_186 rfl (fun hc => ?_) (fun hc => ?_)
    · replace h := h.1 hc
      refine V_iconst (v := 0) dL_areNodesSo_207 (by decide) ?_
      exact hK208 _ _ _ _ _ _ _ _ _ hk hn h
    · replace h := h.2 hc
      refine V_aload_n dL_areNodesSo_189 rfl rfl ?_
      refine V_iload dL_areNodesSo_190 rfl ?_
      refine V_iload dL_areNodesSo_192 rfl ?_
      refine V_iconst (v := 0) dL_areNodesSo_194 (by decide) ?_
      obtain ⟨hk9, hn9, h⟩ := h
      refine V_callSXi (st := []) [.ref 0, .int x4, .int x5, .int 0] dL_areNodesSo_195 ok_mL_value (by decide) ml_RL_122 st_mL_value (Nat.le_of_ble_eq_true rfl) (by decide) hk9 hn9 (s_mL_value hS h) (fun r55 I56 J9 h => ?_)
      clear hk hn
      have hk := hk9
      have hn := hn9
      obtain ⟨rfl, h⟩ := h
      refine V_ldc dL_areNodesSo_198 co_RL_16 ?_
      refine V_icmp_ne 207 dL_areNodesSo_200 rfl (fun hc => ?_) (fun hc => ?_)
      · replace h := h.1 hc
        refine V_iconst (v := 0) dL_areNodesSo_207 (by decide) ?_
        exact hK208 _ _ _ _ _ _ _ _ _ hk hn h
      · replace h := h.2 hc
        refine V_iconst (v := 1) dL_areNodesSo_203 (by decide) ?_
        refine V_goto 208 dL_areNodesSo_204 rfl ?_
        exact hK208 _ _ _ _ _ _ _ _ _ hk hn h
def wL_areNodesSo_208 (g1 : Nat) (g2 : Nat) (K271 : Int32 → QI → Nat → Nat → Prop) (K300 : Int32 → Int32 → QI → Nat → Nat → Prop) (post : Int32 → QI → Prop) (x4 : Int32) (x5 : Int32) (x6 : Int32) (x9 : Int32) (x10 : Int32) (y0 : Int32) (I : QI) (kc : Nat) (nc : Nat) : Prop := ((y0 = 0 → (K300 x4 0 I kc nc)) ∧ (¬ y0 = 0 → ((x6 = 1 → ((x9 < x5 → (K300 x4 0 I kc nc)) ∧ (¬ x9 < x5 → (K271 x4 I kc nc)))) ∧ (¬ x6 = 1 → ((¬ x6 = 3 → ((¬ x6 = 2 → (((x9 + x10) < x5 → (K300 x4 0 I kc nc)) ∧ (¬ (x9 + x10) < x5 → (K271 x4 I kc nc)))) ∧ (x6 = 2 → ((x5 ≤ (x9 * x10) → (K271 x4 I kc nc)) ∧ (¬ x5 ≤ (x9 * x10) → ((x9 < x5 → (K300 x4 0 I kc nc)) ∧ (¬ x9 < x5 → (K271 x4 I kc nc)))))))) ∧ (x6 = 3 → ((x9 < x5 → (K300 x4 0 I kc nc)) ∧ (¬ x9 < x5 → (K271 x4 I kc nc)))))))))
set_option maxRecDepth 100000 in
set_option maxHeartbeats 4000000 in
theorem swL_areNodesSo_208 {X : QX} {S : QS} {g1 : Nat} {g2 : Nat} {J : QJ} {K271 : Int32 → QI → Nat → Nat → Prop} {K300 : Int32 → Int32 → QI → Nat → Nat → Prop} {post : Int32 → QI → Prop} (hS : Sh S) (hNg1 : g1 < S.2.1) (hKg1 : S.2.2.1 g1 = 9) (hZg1 : S.2.2.2.1 g1 = 24) (hNg2 : g2 < S.2.1) (hKg2 : S.2.2.1 g2 = 9) (hZg2 : S.2.2.2.1 g2 = 24) (hK271 : ∀ (z4 : Int32) (I : QI) (kc : Nat) (nc : Nat), kc ≤ 400 → nc ≤ 3000 → K271 z4 I kc nc → V X mL_areNodesSo 9 400 3000 (q_Pi S (fun r I2 J2 => J = J2 ∧ post r I2)) 271 [(0, .ref 0), (2, .ref g1), (3, .ref g2), (4, .int z4)] [] S I J kc nc) (hK300 : ∀ (z4 : Int32) (w0 : Int32) (I : QI) (kc : Nat) (nc : Nat), kc ≤ 400 → nc ≤ 3000 → K300 z4 w0 I kc nc → V X mL_areNodesSo 9 400 3000 (q_Pi S (fun r I2 J2 => J = J2 ∧ post r I2)) 300 [(0, .ref 0), (2, .ref g1), (3, .ref g2), (4, .int z4)] [.int w0] S I J kc nc) : ∀ (x4 : Int32) (x5 : Int32) (x6 : Int32) (x9 : Int32) (x10 : Int32) (y0 : Int32) (I : QI) (kc : Nat) (nc : Nat), kc ≤ 400 → nc ≤ 3000 → wL_areNodesSo_208 g1 g2 K271 K300 post x4 x5 x6 x9 x10 y0 I kc nc → V X mL_areNodesSo 9 400 3000 (q_Pi S (fun r I2 J2 => J = J2 ∧ post r I2)) 208 [(0, .ref 0), (2, .ref g1), (3, .ref g2), (4, .int x4), (5, .int x5), (6, .int x6), (9, .int x9), (10, .int x10)] [.int y0] S I J kc nc := by
  intro x4 x5 x6 x9 x10 y0 I kc nc hk hn h
  replace h : ((y0 = 0 → (K300 x4 0 I kc nc)) ∧ (¬ y0 = 0 → ((x6 = 1 → ((x9 < x5 → (K300 x4 0 I kc nc)) ∧ (¬ x9 < x5 → (K271 x4 I kc nc)))) ∧ (¬ x6 = 1 → ((¬ x6 = 3 → ((¬ x6 = 2 → (((x9 + x10) < x5 → (K300 x4 0 I kc nc)) ∧ (¬ (x9 + x10) < x5 → (K271 x4 I kc nc)))) ∧ (x6 = 2 → ((x5 ≤ (x9 * x10) → (K271 x4 I kc nc)) ∧ (¬ x5 ≤ (x9 * x10) → ((x9 < x5 → (K300 x4 0 I kc nc)) ∧ (¬ x9 < x5 → (K271 x4 I kc nc)))))))) ∧ (x6 = 3 → ((x9 < x5 → (K300 x4 0 I kc nc)) ∧ (¬ x9 < x5 → (K271 x4 I kc nc))))))))) := h
  refine V_istore_n (lo2 := [(1, .int y0), (0, .ref 0), (2, .ref g1), (3, .ref g2), (4, .int x4), (5, .int x5), (6, .int x6), (9, .int x9), (10, .int x10)]) dL_areNodesSo_208 rfl (by decide) rfl ?_
  refine V_iload_n dL_areNodesSo_209 rfl rfl ?_
  refine V_if_eq 299 dL_areNodesSo_210 rfl (fun hc => ?_) (fun hc => ?_)
  · replace h := h.1 hc
    refine V_iconst (v := 0) dL_areNodesSo_299 (by decide) ?_
    refine V_sub (lo2 := [(0, .ref 0), (2, .ref g1), (3, .ref g2), (4, .int x4)]) [1, 2, 3, 4] rfl ?_
    exact hK300 _ _ _ _ _ hk hn h
  · replace h := h.2 hc
    refine V_iload dL_areNodesSo_213 rfl ?_
    refine V_iconst (v := 1) dL_areNodesSo_215 (by decide) ?_
    refine V_icmp_eq 225 dL_areNodesSo_216 rfl (fun hc => ?_) (fun hc => ?_)
    · replace h := h.1 hc
      refine V_iload dL_areNodesSo_225 rfl ?_
      refine V_iload dL_areNodesSo_227 rfl ?_
      refine V_icmp_gt 299 dL_areNodesSo_229 rfl (fun hc => ?_) (fun hc => ?_)
      · replace h := h.1 hc
        refine V_iconst (v := 0) dL_areNodesSo_299 (by decide) ?_
        refine V_sub (lo2 := [(0, .ref 0), (2, .ref g1), (3, .ref g2), (4, .int x4)]) [1, 2, 3, 4] rfl ?_
        exact hK300 _ _ _ _ _ hk hn h
      · replace h := h.2 hc
        refine V_goto 271 dL_areNodesSo_232 rfl ?_
        refine V_sub (lo2 := [(0, .ref 0), (2, .ref g1), (3, .ref g2), (4, .int x4)]) [1, 2, 3, 4] rfl ?_
        exact hK271 _ _ _ _ hk hn h
    · replace h := h.2 hc
      refine V_iload dL_areNodesSo_219 rfl ?_
      refine V_iconst (v := 3) dL_areNodesSo_221 (by decide) ?_
      refine V_icmp_ne 235 dL_areNodesSo_222 rfl (fun hc => ?_) (fun hc => ?_)
      · replace h := h.1 hc
        refine V_iload dL_areNodesSo_235 rfl ?_
        refine V_iconst (v := 2) dL_areNodesSo_237 (by decide) ?_
        refine V_icmp_ne 261 dL_areNodesSo_238 rfl (fun hc => ?_) (fun hc => ?_)
        · replace h := h.1 hc
          refine V_iload dL_areNodesSo_261 rfl ?_
          refine V_iload dL_areNodesSo_263 rfl ?_
          refine V_iload dL_areNodesSo_265 rfl ?_
          refine V_iadd dL_areNodesSo_267 ?_
          refine V_icmp_gt 299 dL_areNodesSo_268 rfl (fun hc => ?_) (fun hc => ?_)
          · replace h := h.1 hc
            refine V_iconst (v := 0) dL_areNodesSo_299 (by decide) ?_
            refine V_sub (lo2 := [(0, .ref 0), (2, .ref g1), (3, .ref g2), (4, .int x4)]) [1, 2, 3, 4] rfl ?_
            exact hK300 _ _ _ _ _ hk hn h
          · replace h := h.2 hc
            refine V_sub (lo2 := [(0, .ref 0), (2, .ref g1), (3, .ref g2), (4, .int x4)]) [1, 2, 3, 4] rfl ?_
            exact hK271 _ _ _ _ hk hn h
        · replace h := h.2 hc
          refine V_iload dL_areNodesSo_241 rfl ?_
          refine V_iload dL_areNodesSo_243 rfl ?_
          refine V_iload dL_areNodesSo_245 rfl ?_
          refine V_imul dL_areNodesSo_247 ?_
          refine V_icmp_le 271 dL_areNodesSo_248 rfl (fun hc => ?_) (fun hc => ?_)
          · replace h := h.1 hc
            refine V_sub (lo2 := [(0, .ref 0), (2, .ref g1), (3, .ref g2), (4, .int x4)]) [1, 2, 3, 4] rfl ?_
            exact hK271 _ _ _ _ hk hn h
          · replace h := h.2 hc
            refine V_iload dL_areNodesSo_251 rfl ?_
            refine V_iload dL_areNodesSo_253 rfl ?_
            refine V_icmp_gt 299 dL_areNodesSo_255 rfl (fun hc => ?_) (fun hc => ?_)
            · replace h := h.1 hc
              refine V_iconst (v := 0) dL_areNodesSo_299 (by decide) ?_
              refine V_sub (lo2 := [(0, .ref 0), (2, .ref g1), (3, .ref g2), (4, .int x4)]) [1, 2, 3, 4] rfl ?_
              exact hK300 _ _ _ _ _ hk hn h
            · replace h := h.2 hc
              refine V_goto 271 dL_areNodesSo_258 rfl ?_
              refine V_sub (lo2 := [(0, .ref 0), (2, .ref g1), (3, .ref g2), (4, .int x4)]) [1, 2, 3, 4] rfl ?_
              exact hK271 _ _ _ _ hk hn h
      · replace h := h.2 hc
        refine V_iload dL_areNodesSo_225 rfl ?_
        refine V_iload dL_areNodesSo_227 rfl ?_
        refine V_icmp_gt 299 dL_areNodesSo_229 rfl (fun hc => ?_) (fun hc => ?_)
        · replace h := h.1 hc
          refine V_iconst (v := 0) dL_areNodesSo_299 (by decide) ?_
          refine V_sub (lo2 := [(0, .ref 0), (2, .ref g1), (3, .ref g2), (4, .int x4)]) [1, 2, 3, 4] rfl ?_
          exact hK300 _ _ _ _ _ hk hn h
        · replace h := h.2 hc
          refine V_goto 271 dL_areNodesSo_232 rfl ?_
          refine V_sub (lo2 := [(0, .ref 0), (2, .ref g1), (3, .ref g2), (4, .int x4)]) [1, 2, 3, 4] rfl ?_
          exact hK271 _ _ _ _ hk hn h
def wL_areNodesSo_271 (g1 : Nat) (g2 : Nat) (K300 : Int32 → Int32 → QI → Nat → Nat → Prop) (post : Int32 → QI → Prop) (x4 : Int32) (I : QI) (kc : Nat) (nc : Nat) : Prop := (kc + 1 ≤ 400 ∧ nc + 6 ≤ 3000 ∧ wL_node x4 3 I (fun r70 => ((6 < r70 → (K300 x4 0 I (kc + 1) (nc + 6))) ∧ (¬ 6 < r70 → (kc + 1 + 1 ≤ 400 ∧ nc + 6 + 6 ≤ 3000 ∧ wL_node x4 4 I (fun r71 => ((¬ r71 = (-99999) → (K300 x4 0 I (kc + 1 + 1) (nc + 6 + 6))) ∧ (r71 = (-99999) → (K300 x4 1 I (kc + 1 + 1) (nc + 6 + 6))))))))))
set_option maxRecDepth 100000 in
set_option maxHeartbeats 4000000 in
theorem swL_areNodesSo_271 {X : QX} {S : QS} {g1 : Nat} {g2 : Nat} {J : QJ} {K300 : Int32 → Int32 → QI → Nat → Nat → Prop} {post : Int32 → QI → Prop} (hS : Sh S) (hNg1 : g1 < S.2.1) (hKg1 : S.2.2.1 g1 = 9) (hZg1 : S.2.2.2.1 g1 = 24) (hNg2 : g2 < S.2.1) (hKg2 : S.2.2.1 g2 = 9) (hZg2 : S.2.2.2.1 g2 = 24) (hK300 : ∀ (z4 : Int32) (w0 : Int32) (I : QI) (kc : Nat) (nc : Nat), kc ≤ 400 → nc ≤ 3000 → K300 z4 w0 I kc nc → V X mL_areNodesSo 9 400 3000 (q_Pi S (fun r I2 J2 => J = J2 ∧ post r I2)) 300 [(0, .ref 0), (2, .ref g1), (3, .ref g2), (4, .int z4)] [.int w0] S I J kc nc) : ∀ (x4 : Int32) (I : QI) (kc : Nat) (nc : Nat), kc ≤ 400 → nc ≤ 3000 → wL_areNodesSo_271 g1 g2 K300 post x4 I kc nc → V X mL_areNodesSo 9 400 3000 (q_Pi S (fun r I2 J2 => J = J2 ∧ post r I2)) 271 [(0, .ref 0), (2, .ref g1), (3, .ref g2), (4, .int x4)] [] S I J kc nc := by
  intro x4 I kc nc hk hn h
  replace h : (kc + 1 ≤ 400 ∧ nc + 6 ≤ 3000 ∧ wL_node x4 3 I (fun r70 => ((6 < r70 → (K300 x4 0 I (kc + 1) (nc + 6))) ∧ (¬ 6 < r70 → (kc + 1 + 1 ≤ 400 ∧ nc + 6 + 6 ≤ 3000 ∧ wL_node x4 4 I (fun r71 => ((¬ r71 = (-99999) → (K300 x4 0 I (kc + 1 + 1) (nc + 6 + 6))) ∧ (r71 = (-99999) → (K300 x4 1 I (kc + 1 + 1) (nc + 6 + 6)))))))))) := h
  refine V_aload_n dL_areNodesSo_271 rfl rfl ?_
  refine V_iload dL_areNodesSo_272 rfl ?_
  refine V_iconst (v := 3) dL_areNodesSo_274 (by decide) ?_
  obtain ⟨hk9, hn9, h⟩ := h
  refine V_callSXi (st := []) [.ref 0, .int x4, .int 3] dL_areNodesSo_275 ok_mL_node (by decide) ml_RL_148 st_mL_node (Nat.le_of_ble_eq_true rfl) (by decide) hk9 hn9 (s_mL_node hS h) (fun r70 I9 J9 h => ?_)
  clear hk hn
  have hk := hk9
  have hn := hn9
  obtain ⟨rfl, rfl, h⟩ := h
  refine V_bipush (v := 6) dL_areNodesSo_278 (by decide) ?_
  refine V_icmp_gt 299 dL_areNodesSo_280 rfl (fun hc => ?_) (fun hc => ?_)
  · replace h := h.1 hc
    refine V_iconst (v := 0) dL_areNodesSo_299 (by decide) ?_
    exact hK300 _ _ _ _ _ hk hn h
  · replace h := h.2 hc
    refine V_aload_n dL_areNodesSo_283 rfl rfl ?_
    refine V_iload dL_areNodesSo_284 rfl ?_
    refine V_iconst (v := 4) dL_areNodesSo_286 (by decide) ?_
    obtain ⟨hk9, hn9, h⟩ := h
    refine V_callSXi (st := []) [.ref 0, .int x4, .int 4] dL_areNodesSo_287 ok_mL_node (by decide) ml_RL_148 st_mL_node (Nat.le_of_ble_eq_true rfl) (by decide) hk9 hn9 (s_mL_node hS h) (fun r71 I9 J9 h => ?_)
    clear hk hn
    have hk := hk9
    have hn := hn9
    obtain ⟨rfl, rfl, h⟩ := h
    refine V_ldc dL_areNodesSo_290 co_RL_16 ?_
    refine V_icmp_ne 299 dL_areNodesSo_292 rfl (fun hc => ?_) (fun hc => ?_)
    · replace h := h.1 hc
      refine V_iconst (v := 0) dL_areNodesSo_299 (by decide) ?_
      exact hK300 _ _ _ _ _ hk hn h
    · replace h := h.2 hc
      refine V_iconst (v := 1) dL_areNodesSo_295 (by decide) ?_
      refine V_goto 300 dL_areNodesSo_296 rfl ?_
      exact hK300 _ _ _ _ _ hk hn h
def wL_areNodesSo_300 (g1 : Nat) (g2 : Nat) (K301 : Int32 → Int32 → QI → Nat → Nat → Prop) (post : Int32 → QI → Prop) (x4 : Int32) (y0 : Int32) (I : QI) (kc : Nat) (nc : Nat) : Prop := (K301 y0 x4 I kc nc)
set_option maxRecDepth 100000 in
set_option maxHeartbeats 4000000 in
theorem swL_areNodesSo_300 {X : QX} {S : QS} {g1 : Nat} {g2 : Nat} {J : QJ} {K301 : Int32 → Int32 → QI → Nat → Nat → Prop} {post : Int32 → QI → Prop} (hS : Sh S) (hNg1 : g1 < S.2.1) (hKg1 : S.2.2.1 g1 = 9) (hZg1 : S.2.2.2.1 g1 = 24) (hNg2 : g2 < S.2.1) (hKg2 : S.2.2.1 g2 = 9) (hZg2 : S.2.2.2.1 g2 = 24) (hK301 : ∀ (z1 : Int32) (z4 : Int32) (I : QI) (kc : Nat) (nc : Nat), kc ≤ 400 → nc ≤ 3000 → K301 z1 z4 I kc nc → V X mL_areNodesSo 9 400 3000 (q_Pi S (fun r I2 J2 => J = J2 ∧ post r I2)) 301 [(0, .ref 0), (1, .int z1), (2, .ref g1), (3, .ref g2), (4, .int z4)] [] S I J kc nc) : ∀ (x4 : Int32) (y0 : Int32) (I : QI) (kc : Nat) (nc : Nat), kc ≤ 400 → nc ≤ 3000 → wL_areNodesSo_300 g1 g2 K301 post x4 y0 I kc nc → V X mL_areNodesSo 9 400 3000 (q_Pi S (fun r I2 J2 => J = J2 ∧ post r I2)) 300 [(0, .ref 0), (2, .ref g1), (3, .ref g2), (4, .int x4)] [.int y0] S I J kc nc := by
  intro x4 y0 I kc nc hk hn h
  replace h : (K301 y0 x4 I kc nc) := h
  refine V_istore_n (lo2 := [(1, .int y0), (0, .ref 0), (2, .ref g1), (3, .ref g2), (4, .int x4)]) dL_areNodesSo_300 rfl (by decide) rfl ?_
  refine V_sub (lo2 := [(0, .ref 0), (1, .int y0), (2, .ref g1), (3, .ref g2), (4, .int x4)]) [1, 0, 2, 3, 4] rfl ?_
  exact hK301 _ _ _ _ _ hk hn h
def wL_areNodesSo_15 (g1 : Nat) (g2 : Nat) (post : Int32 → QI → Prop) : Nat → Int32 → Int32 → QI → Nat → Nat → Prop
  | 0, _, _, _, _, _ => False
  | n + 1, x1, x4, I, kc, nc => ((24 ≤ x4 → ((x1 = 0 ∨ x1 = 1) ∧ post x1 I)) ∧ (¬ 24 ≤ x4 → ((x1 = 0 → ((x1 = 0 ∨ x1 = 1) ∧ post x1 I)) ∧ (¬ x1 = 0 → (kc + 1 ≤ 400 ∧ nc + 6 ≤ 3000 ∧ wL_rows x4 I (fun r1 I2 => (kc + 1 + 1 ≤ 400 ∧ nc + 6 + 6 ≤ 3000 ∧ wL_node x4 0 I2 (fun r3 => (kc + 1 + 1 + 1 ≤ 400 ∧ nc + 6 + 6 + 6 ≤ 3000 ∧ wL_node x4 1 I2 (fun r4 => (kc + 1 + 1 + 1 + 1 ≤ 400 ∧ nc + 6 + 6 + 6 + 6 ≤ 3000 ∧ wL_node x4 2 I2 (fun r5 => (vp_in x4 24 ∧ (∀ I6 : QI, I6 = q_u2 I2 g1 (x4).toNatClampNeg r1 → (kc + 1 + 1 + 1 + 1 + 1 ≤ 400 ∧ nc + 6 + 6 + 6 + 6 + 6 ≤ 3000 ∧ wL_steps x4 I6 (fun r7 I8 => (vp_in x4 24 ∧ (∀ I9 : QI, I9 = q_u2 I8 g2 (x4).toNatClampNeg r7 → ((r3 ≤ 0 → (wL_areNodesSo_301 g1 g2 (fun u11 u12 I13 z14 z15 => (wL_areNodesSo_15 g1 g2 post n u11 u12 I13 z14 z15)) post x1 x4 I9 (kc + 1 + 1 + 1 + 1 + 1) (nc + 6 + 6 + 6 + 6 + 6))) ∧ (¬ r3 ≤ 0 → ((r1 < 0 → (wL_areNodesSo_301 g1 g2 (fun u16 u17 I18 z19 z20 => (wL_areNodesSo_15 g1 g2 post n u16 u17 I18 z19 z20)) post x1 x4 I9 (kc + 1 + 1 + 1 + 1 + 1) (nc + 6 + 6 + 6 + 6 + 6))) ∧ (¬ r1 < 0 → ((r4 < 0 → (wL_areNodesSo_111 g1 g2 (fun u21 u22 u23 u24 u25 u26 u27 I28 z29 z30 => (wL_areNodesSo_124 g1 g2 (fun u31 u32 u33 u34 u35 u36 u37 u38 I39 z40 z41 => (wL_areNodesSo_143 g1 g2 (fun u42 u43 u44 u45 u46 u47 u48 u49 I50 z51 z52 => (wL_areNodesSo_173 g1 g2 (fun u57 u58 u59 u60 u61 u62 I63 z64 z65 => (wL_areNodesSo_208 g1 g2 (fun u66 I67 z68 z69 => (wL_areNodesSo_271 g1 g2 (fun u72 u73 I74 z75 z76 => (wL_areNodesSo_300 g1 g2 (fun u77 u78 I79 z80 z81 => (wL_areNodesSo_301 g1 g2 (fun u82 u83 I84 z85 z86 => (wL_areNodesSo_15 g1 g2 post n u82 u83 I84 z85 z86)) post u77 u78 I79 z80 z81)) post u72 u73 I74 z75 z76)) post u66 I67 z68 z69)) (fun u87 u88 I89 z90 z91 => (wL_areNodesSo_300 g1 g2 (fun u92 u93 I94 z95 z96 => (wL_areNodesSo_301 g1 g2 (fun u97 u98 I99 z100 z101 => (wL_areNodesSo_15 g1 g2 post n u97 u98 I99 z100 z101)) post u92 u93 I94 z95 z96)) post u87 u88 I89 z90 z91)) post u57 u58 u59 u60 u61 u62 I63 z64 z65)) post u42 u43 u44 u45 u46 u47 u48 u49 I50 z51 z52)) (fun u102 u103 u104 u105 u106 u107 I108 z109 z110 => (wL_areNodesSo_208 g1 g2 (fun u111 I112 z113 z114 => (wL_areNodesSo_271 g1 g2 (fun u115 u116 I117 z118 z119 => (wL_areNodesSo_300 g1 g2 (fun u120 u121 I122 z123 z124 => (wL_areNodesSo_301 g1 g2 (fun u125 u126 I127 z128 z129 => (wL_areNodesSo_15 g1 g2 post n u125 u126 I127 z128 z129)) post u120 u121 I122 z123 z124)) post u115 u116 I117 z118 z119)) post u111 I112 z113 z114)) (fun u130 u131 I132 z133 z134 => (wL_areNodesSo_300 g1 g2 (fun u135 u136 I137 z138 z139 => (wL_areNodesSo_301 g1 g2 (fun u140 u141 I142 z143 z144 => (wL_areNodesSo_15 g1 g2 post n u140 u141 I142 z143 z144)) post u135 u136 I137 z138 z139)) post u130 u131 I132 z133 z134)) post u102 u103 u104 u105 u106 u107 I108 z109 z110)) post u31 u32 u33 u34 u35 u36 u37 u38 I39 z40 z41)) post u21 u22 u23 u24 u25 u26 u27 I28 z29 z30)) post x4 r1 r3 r4 r5 0 I9 (kc + 1 + 1 + 1 + 1 + 1) (nc + 6 + 6 + 6 + 6 + 6))) ∧ (¬ r4 < 0 → ((x4 ≤ r4 → (wL_areNodesSo_111 g1 g2 (fun u145 u146 u147 u148 u149 u150 u151 I152 z153 z154 => (wL_areNodesSo_124 g1 g2 (fun u155 u156 u157 u158 u159 u160 u161 u162 I163 z164 z165 => (wL_areNodesSo_143 g1 g2 (fun u166 u167 u168 u169 u170 u171 u172 u173 I174 z175 z176 => (wL_areNodesSo_173 g1 g2 (fun u177 u178 u179 u180 u181 u182 I183 z184 z185 => (wL_areNodesSo_208 g1 g2 (fun u186 I187 z188 z189 => (wL_areNodesSo_271 g1 g2 (fun u190 u191 I192 z193 z194 => (wL_areNodesSo_300 g1 g2 (fun u195 u196 I197 z198 z199 => (wL_areNodesSo_301 g1 g2 (fun u200 u201 I202 z203 z204 => (wL_areNodesSo_15 g1 g2 post n u200 u201 I202 z203 z204)) post u195 u196 I197 z198 z199)) post u190 u191 I192 z193 z194)) post u186 I187 z188 z189)) (fun u205 u206 I207 z208 z209 => (wL_areNodesSo_300 g1 g2 (fun u210 u211 I212 z213 z214 => (wL_areNodesSo_301 g1 g2 (fun u215 u216 I217 z218 z219 => (wL_areNodesSo_15 g1 g2 post n u215 u216 I217 z218 z219)) post u210 u211 I212 z213 z214)) post u205 u206 I207 z208 z209)) post u177 u178 u179 u180 u181 u182 I183 z184 z185)) post u166 u167 u168 u169 u170 u171 u172 u173 I174 z175 z176)) (fun u220 u221 u222 u223 u224 u225 I226 z227 z228 => (wL_areNodesSo_208 g1 g2 (fun u229 I230 z231 z232 => (wL_areNodesSo_271 g1 g2 (fun u233 u234 I235 z236 z237 => (wL_areNodesSo_300 g1 g2 (fun u238 u239 I240 z241 z242 => (wL_areNodesSo_301 g1 g2 (fun u243 u244 I245 z246 z247 => (wL_areNodesSo_15 g1 g2 post n u243 u244 I245 z246 z247)) post u238 u239 I240 z241 z242)) post u233 u234 I235 z236 z237)) post u229 I230 z231 z232)) (fun u248 u249 I250 z251 z252 => (wL_areNodesSo_300 g1 g2 (fun u253 u254 I255 z256 z257 => (wL_areNodesSo_301 g1 g2 (fun u258 u259 I260 z261 z262 => (wL_areNodesSo_15 g1 g2 post n u258 u259 I260 z261 z262)) post u253 u254 I255 z256 z257)) post u248 u249 I250 z251 z252)) post u220 u221 u222 u223 u224 u225 I226 z227 z228)) post u155 u156 u157 u158 u159 u160 u161 u162 I163 z164 z165)) post u145 u146 u147 u148 u149 u150 u151 I152 z153 z154)) post x4 r1 r3 r4 r5 0 I9 (kc + 1 + 1 + 1 + 1 + 1) (nc + 6 + 6 + 6 + 6 + 6))) ∧ (¬ x4 ≤ r4 → ((x4 ≤ r5 → (wL_areNodesSo_111 g1 g2 (fun u263 u264 u265 u266 u267 u268 u269 I270 z271 z272 => (wL_areNodesSo_124 g1 g2 (fun u273 u274 u275 u276 u277 u278 u279 u280 I281 z282 z283 => (wL_areNodesSo_143 g1 g2 (fun u284 u285 u286 u287 u288 u289 u290 u291 I292 z293 z294 => (wL_areNodesSo_173 g1 g2 (fun u295 u296 u297 u298 u299 u300 I301 z302 z303 => (wL_areNodesSo_208 g1 g2 (fun u304 I305 z306 z307 => (wL_areNodesSo_271 g1 g2 (fun u308 u309 I310 z311 z312 => (wL_areNodesSo_300 g1 g2 (fun u313 u314 I315 z316 z317 => (wL_areNodesSo_301 g1 g2 (fun u318 u319 I320 z321 z322 => (wL_areNodesSo_15 g1 g2 post n u318 u319 I320 z321 z322)) post u313 u314 I315 z316 z317)) post u308 u309 I310 z311 z312)) post u304 I305 z306 z307)) (fun u323 u324 I325 z326 z327 => (wL_areNodesSo_300 g1 g2 (fun u328 u329 I330 z331 z332 => (wL_areNodesSo_301 g1 g2 (fun u333 u334 I335 z336 z337 => (wL_areNodesSo_15 g1 g2 post n u333 u334 I335 z336 z337)) post u328 u329 I330 z331 z332)) post u323 u324 I325 z326 z327)) post u295 u296 u297 u298 u299 u300 I301 z302 z303)) post u284 u285 u286 u287 u288 u289 u290 u291 I292 z293 z294)) (fun u338 u339 u340 u341 u342 u343 I344 z345 z346 => (wL_areNodesSo_208 g1 g2 (fun u347 I348 z349 z350 => (wL_areNodesSo_271 g1 g2 (fun u351 u352 I353 z354 z355 => (wL_areNodesSo_300 g1 g2 (fun u356 u357 I358 z359 z360 => (wL_areNodesSo_301 g1 g2 (fun u361 u362 I363 z364 z365 => (wL_areNodesSo_15 g1 g2 post n u361 u362 I363 z364 z365)) post u356 u357 I358 z359 z360)) post u351 u352 I353 z354 z355)) post u347 I348 z349 z350)) (fun u366 u367 I368 z369 z370 => (wL_areNodesSo_300 g1 g2 (fun u371 u372 I373 z374 z375 => (wL_areNodesSo_301 g1 g2 (fun u376 u377 I378 z379 z380 => (wL_areNodesSo_15 g1 g2 post n u376 u377 I378 z379 z380)) post u371 u372 I373 z374 z375)) post u366 u367 I368 z369 z370)) post u338 u339 u340 u341 u342 u343 I344 z345 z346)) post u273 u274 u275 u276 u277 u278 u279 u280 I281 z282 z283)) post u263 u264 u265 u266 u267 u268 u269 I270 z271 z272)) post x4 r1 r3 r4 r5 0 I9 (kc + 1 + 1 + 1 + 1 + 1) (nc + 6 + 6 + 6 + 6 + 6))) ∧ (¬ x4 ≤ r5 → (wL_areNodesSo_111 g1 g2 (fun u381 u382 u383 u384 u385 u386 u387 I388 z389 z390 => (wL_areNodesSo_124 g1 g2 (fun u391 u392 u393 u394 u395 u396 u397 u398 I399 z400 z401 => (wL_areNodesSo_143 g1 g2 (fun u402 u403 u404 u405 u406 u407 u408 u409 I410 z411 z412 => (wL_areNodesSo_173 g1 g2 (fun u413 u414 u415 u416 u417 u418 I419 z420 z421 => (wL_areNodesSo_208 g1 g2 (fun u422 I423 z424 z425 => (wL_areNodesSo_271 g1 g2 (fun u426 u427 I428 z429 z430 => (wL_areNodesSo_300 g1 g2 (fun u431 u432 I433 z434 z435 => (wL_areNodesSo_301 g1 g2 (fun u436 u437 I438 z439 z440 => (wL_areNodesSo_15 g1 g2 post n u436 u437 I438 z439 z440)) post u431 u432 I433 z434 z435)) post u426 u427 I428 z429 z430)) post u422 I423 z424 z425)) (fun u441 u442 I443 z444 z445 => (wL_areNodesSo_300 g1 g2 (fun u446 u447 I448 z449 z450 => (wL_areNodesSo_301 g1 g2 (fun u451 u452 I453 z454 z455 => (wL_areNodesSo_15 g1 g2 post n u451 u452 I453 z454 z455)) post u446 u447 I448 z449 z450)) post u441 u442 I443 z444 z445)) post u413 u414 u415 u416 u417 u418 I419 z420 z421)) post u402 u403 u404 u405 u406 u407 u408 u409 I410 z411 z412)) (fun u456 u457 u458 u459 u460 u461 I462 z463 z464 => (wL_areNodesSo_208 g1 g2 (fun u465 I466 z467 z468 => (wL_areNodesSo_271 g1 g2 (fun u469 u470 I471 z472 z473 => (wL_areNodesSo_300 g1 g2 (fun u474 u475 I476 z477 z478 => (wL_areNodesSo_301 g1 g2 (fun u479 u480 I481 z482 z483 => (wL_areNodesSo_15 g1 g2 post n u479 u480 I481 z482 z483)) post u474 u475 I476 z477 z478)) post u469 u470 I471 z472 z473)) post u465 I466 z467 z468)) (fun u484 u485 I486 z487 z488 => (wL_areNodesSo_300 g1 g2 (fun u489 u490 I491 z492 z493 => (wL_areNodesSo_301 g1 g2 (fun u494 u495 I496 z497 z498 => (wL_areNodesSo_15 g1 g2 post n u494 u495 I496 z497 z498)) post u489 u490 I491 z492 z493)) post u484 u485 I486 z487 z488)) post u456 u457 u458 u459 u460 u461 I462 z463 z464)) post u391 u392 u393 u394 u395 u396 u397 u398 I399 z400 z401)) post u381 u382 u383 u384 u385 u386 u387 I388 z389 z390)) post x4 r1 r3 r4 r5 1 I9 (kc + 1 + 1 + 1 + 1 + 1) (nc + 6 + 6 + 6 + 6 + 6))))))))))))))))))))))))))))))
set_option maxRecDepth 100000 in
set_option maxHeartbeats 4000000 in
theorem swL_areNodesSo_15 {X : QX} {S : QS} {g1 : Nat} {g2 : Nat} {J : QJ} {post : Int32 → QI → Prop} (hS : Sh S) (hNg1 : g1 < S.2.1) (hKg1 : S.2.2.1 g1 = 9) (hZg1 : S.2.2.2.1 g1 = 24) (hNg2 : g2 < S.2.1) (hKg2 : S.2.2.1 g2 = 9) (hZg2 : S.2.2.2.1 g2 = 24) : ∀ (f : Nat) (x1 : Int32) (x4 : Int32) (I : QI) (kc : Nat) (nc : Nat), kc ≤ 400 → nc ≤ 3000 → wL_areNodesSo_15 g1 g2 post f x1 x4 I kc nc → V X mL_areNodesSo 9 400 3000 (q_Pi S (fun r I2 J2 => J = J2 ∧ post r I2)) 15 [(0, .ref 0), (1, .int x1), (2, .ref g1), (3, .ref g2), (4, .int x4)] [] S I J kc nc := by
  intro f
  induction f with
  | zero => intro x1 x4 I kc nc hk hn h; exact h.elim
  | succ n ih =>
    intro x1 x4 I kc nc hk hn h
    replace h : ((24 ≤ x4 → ((x1 = 0 ∨ x1 = 1) ∧ post x1 I)) ∧ (¬ 24 ≤ x4 → ((x1 = 0 → ((x1 = 0 ∨ x1 = 1) ∧ post x1 I)) ∧ (¬ x1 = 0 → (kc + 1 ≤ 400 ∧ nc + 6 ≤ 3000 ∧ wL_rows x4 I (fun r1 I2 => (kc + 1 + 1 ≤ 400 ∧ nc + 6 + 6 ≤ 3000 ∧ wL_node x4 0 I2 (fun r3 => (kc + 1 + 1 + 1 ≤ 400 ∧ nc + 6 + 6 + 6 ≤ 3000 ∧ wL_node x4 1 I2 (fun r4 => (kc + 1 + 1 + 1 + 1 ≤ 400 ∧ nc + 6 + 6 + 6 + 6 ≤ 3000 ∧ wL_node x4 2 I2 (fun r5 => (vp_in x4 24 ∧ (∀ I6 : QI, I6 = q_u2 I2 g1 (x4).toNatClampNeg r1 → (kc + 1 + 1 + 1 + 1 + 1 ≤ 400 ∧ nc + 6 + 6 + 6 + 6 + 6 ≤ 3000 ∧ wL_steps x4 I6 (fun r7 I8 => (vp_in x4 24 ∧ (∀ I9 : QI, I9 = q_u2 I8 g2 (x4).toNatClampNeg r7 → ((r3 ≤ 0 → (wL_areNodesSo_301 g1 g2 (fun u11 u12 I13 z14 z15 => (wL_areNodesSo_15 g1 g2 post n u11 u12 I13 z14 z15)) post x1 x4 I9 (kc + 1 + 1 + 1 + 1 + 1) (nc + 6 + 6 + 6 + 6 + 6))) ∧ (¬ r3 ≤ 0 → ((r1 < 0 → (wL_areNodesSo_301 g1 g2 (fun u16 u17 I18 z19 z20 => (wL_areNodesSo_15 g1 g2 post n u16 u17 I18 z19 z20)) post x1 x4 I9 (kc + 1 + 1 + 1 + 1 + 1) (nc + 6 + 6 + 6 + 6 + 6))) ∧ (¬ r1 < 0 → ((r4 < 0 → (wL_areNodesSo_111 g1 g2 (fun u21 u22 u23 u24 u25 u26 u27 I28 z29 z30 => (wL_areNodesSo_124 g1 g2 (fun u31 u32 u33 u34 u35 u36 u37 u38 I39 z40 z41 => (wL_areNodesSo_143 g1 g2 (fun u42 u43 u44 u45 u46 u47 u48 u49 I50 z51 z52 => (wL_areNodesSo_173 g1 g2 (fun u57 u58 u59 u60 u61 u62 I63 z64 z65 => (wL_areNodesSo_208 g1 g2 (fun u66 I67 z68 z69 => (wL_areNodesSo_271 g1 g2 (fun u72 u73 I74 z75 z76 => (wL_areNodesSo_300 g1 g2 (fun u77 u78 I79 z80 z81 => (wL_areNodesSo_301 g1 g2 (fun u82 u83 I84 z85 z86 => (wL_areNodesSo_15 g1 g2 post n u82 u83 I84 z85 z86)) post u77 u78 I79 z80 z81)) post u72 u73 I74 z75 z76)) post u66 I67 z68 z69)) (fun u87 u88 I89 z90 z91 => (wL_areNodesSo_300 g1 g2 (fun u92 u93 I94 z95 z96 => (wL_areNodesSo_301 g1 g2 (fun u97 u98 I99 z100 z101 => (wL_areNodesSo_15 g1 g2 post n u97 u98 I99 z100 z101)) post u92 u93 I94 z95 z96)) post u87 u88 I89 z90 z91)) post u57 u58 u59 u60 u61 u62 I63 z64 z65)) post u42 u43 u44 u45 u46 u47 u48 u49 I50 z51 z52)) (fun u102 u103 u104 u105 u106 u107 I108 z109 z110 => (wL_areNodesSo_208 g1 g2 (fun u111 I112 z113 z114 => (wL_areNodesSo_271 g1 g2 (fun u115 u116 I117 z118 z119 => (wL_areNodesSo_300 g1 g2 (fun u120 u121 I122 z123 z124 => (wL_areNodesSo_301 g1 g2 (fun u125 u126 I127 z128 z129 => (wL_areNodesSo_15 g1 g2 post n u125 u126 I127 z128 z129)) post u120 u121 I122 z123 z124)) post u115 u116 I117 z118 z119)) post u111 I112 z113 z114)) (fun u130 u131 I132 z133 z134 => (wL_areNodesSo_300 g1 g2 (fun u135 u136 I137 z138 z139 => (wL_areNodesSo_301 g1 g2 (fun u140 u141 I142 z143 z144 => (wL_areNodesSo_15 g1 g2 post n u140 u141 I142 z143 z144)) post u135 u136 I137 z138 z139)) post u130 u131 I132 z133 z134)) post u102 u103 u104 u105 u106 u107 I108 z109 z110)) post u31 u32 u33 u34 u35 u36 u37 u38 I39 z40 z41)) post u21 u22 u23 u24 u25 u26 u27 I28 z29 z30)) post x4 r1 r3 r4 r5 0 I9 (kc + 1 + 1 + 1 + 1 + 1) (nc + 6 + 6 + 6 + 6 + 6))) ∧ (¬ r4 < 0 → ((x4 ≤ r4 → (wL_areNodesSo_111 g1 g2 (fun u145 u146 u147 u148 u149 u150 u151 I152 z153 z154 => (wL_areNodesSo_124 g1 g2 (fun u155 u156 u157 u158 u159 u160 u161 u162 I163 z164 z165 => (wL_areNodesSo_143 g1 g2 (fun u166 u167 u168 u169 u170 u171 u172 u173 I174 z175 z176 => (wL_areNodesSo_173 g1 g2 (fun u177 u178 u179 u180 u181 u182 I183 z184 z185 => (wL_areNodesSo_208 g1 g2 (fun u186 I187 z188 z189 => (wL_areNodesSo_271 g1 g2 (fun u190 u191 I192 z193 z194 => (wL_areNodesSo_300 g1 g2 (fun u195 u196 I197 z198 z199 => (wL_areNodesSo_301 g1 g2 (fun u200 u201 I202 z203 z204 => (wL_areNodesSo_15 g1 g2 post n u200 u201 I202 z203 z204)) post u195 u196 I197 z198 z199)) post u190 u191 I192 z193 z194)) post u186 I187 z188 z189)) (fun u205 u206 I207 z208 z209 => (wL_areNodesSo_300 g1 g2 (fun u210 u211 I212 z213 z214 => (wL_areNodesSo_301 g1 g2 (fun u215 u216 I217 z218 z219 => (wL_areNodesSo_15 g1 g2 post n u215 u216 I217 z218 z219)) post u210 u211 I212 z213 z214)) post u205 u206 I207 z208 z209)) post u177 u178 u179 u180 u181 u182 I183 z184 z185)) post u166 u167 u168 u169 u170 u171 u172 u173 I174 z175 z176)) (fun u220 u221 u222 u223 u224 u225 I226 z227 z228 => (wL_areNodesSo_208 g1 g2 (fun u229 I230 z231 z232 => (wL_areNodesSo_271 g1 g2 (fun u233 u234 I235 z236 z237 => (wL_areNodesSo_300 g1 g2 (fun u238 u239 I240 z241 z242 => (wL_areNodesSo_301 g1 g2 (fun u243 u244 I245 z246 z247 => (wL_areNodesSo_15 g1 g2 post n u243 u244 I245 z246 z247)) post u238 u239 I240 z241 z242)) post u233 u234 I235 z236 z237)) post u229 I230 z231 z232)) (fun u248 u249 I250 z251 z252 => (wL_areNodesSo_300 g1 g2 (fun u253 u254 I255 z256 z257 => (wL_areNodesSo_301 g1 g2 (fun u258 u259 I260 z261 z262 => (wL_areNodesSo_15 g1 g2 post n u258 u259 I260 z261 z262)) post u253 u254 I255 z256 z257)) post u248 u249 I250 z251 z252)) post u220 u221 u222 u223 u224 u225 I226 z227 z228)) post u155 u156 u157 u158 u159 u160 u161 u162 I163 z164 z165)) post u145 u146 u147 u148 u149 u150 u151 I152 z153 z154)) post x4 r1 r3 r4 r5 0 I9 (kc + 1 + 1 + 1 + 1 + 1) (nc + 6 + 6 + 6 + 6 + 6))) ∧ (¬ x4 ≤ r4 → ((x4 ≤ r5 → (wL_areNodesSo_111 g1 g2 (fun u263 u264 u265 u266 u267 u268 u269 I270 z271 z272 => (wL_areNodesSo_124 g1 g2 (fun u273 u274 u275 u276 u277 u278 u279 u280 I281 z282 z283 => (wL_areNodesSo_143 g1 g2 (fun u284 u285 u286 u287 u288 u289 u290 u291 I292 z293 z294 => (wL_areNodesSo_173 g1 g2 (fun u295 u296 u297 u298 u299 u300 I301 z302 z303 => (wL_areNodesSo_208 g1 g2 (fun u304 I305 z306 z307 => (wL_areNodesSo_271 g1 g2 (fun u308 u309 I310 z311 z312 => (wL_areNodesSo_300 g1 g2 (fun u313 u314 I315 z316 z317 => (wL_areNodesSo_301 g1 g2 (fun u318 u319 I320 z321 z322 => (wL_areNodesSo_15 g1 g2 post n u318 u319 I320 z321 z322)) post u313 u314 I315 z316 z317)) post u308 u309 I310 z311 z312)) post u304 I305 z306 z307)) (fun u323 u324 I325 z326 z327 => (wL_areNodesSo_300 g1 g2 (fun u328 u329 I330 z331 z332 => (wL_areNodesSo_301 g1 g2 (fun u333 u334 I335 z336 z337 => (wL_areNodesSo_15 g1 g2 post n u333 u334 I335 z336 z337)) post u328 u329 I330 z331 z332)) post u323 u324 I325 z326 z327)) post u295 u296 u297 u298 u299 u300 I301 z302 z303)) post u284 u285 u286 u287 u288 u289 u290 u291 I292 z293 z294)) (fun u338 u339 u340 u341 u342 u343 I344 z345 z346 => (wL_areNodesSo_208 g1 g2 (fun u347 I348 z349 z350 => (wL_areNodesSo_271 g1 g2 (fun u351 u352 I353 z354 z355 => (wL_areNodesSo_300 g1 g2 (fun u356 u357 I358 z359 z360 => (wL_areNodesSo_301 g1 g2 (fun u361 u362 I363 z364 z365 => (wL_areNodesSo_15 g1 g2 post n u361 u362 I363 z364 z365)) post u356 u357 I358 z359 z360)) post u351 u352 I353 z354 z355)) post u347 I348 z349 z350)) (fun u366 u367 I368 z369 z370 => (wL_areNodesSo_300 g1 g2 (fun u371 u372 I373 z374 z375 => (wL_areNodesSo_301 g1 g2 (fun u376 u377 I378 z379 z380 => (wL_areNodesSo_15 g1 g2 post n u376 u377 I378 z379 z380)) post u371 u372 I373 z374 z375)) post u366 u367 I368 z369 z370)) post u338 u339 u340 u341 u342 u343 I344 z345 z346)) post u273 u274 u275 u276 u277 u278 u279 u280 I281 z282 z283)) post u263 u264 u265 u266 u267 u268 u269 I270 z271 z272)) post x4 r1 r3 r4 r5 0 I9 (kc + 1 + 1 + 1 + 1 + 1) (nc + 6 + 6 + 6 + 6 + 6))) ∧ (¬ x4 ≤ r5 → (wL_areNodesSo_111 g1 g2 (fun u381 u382 u383 u384 u385 u386 u387 I388 z389 z390 => (wL_areNodesSo_124 g1 g2 (fun u391 u392 u393 u394 u395 u396 u397 u398 I399 z400 z401 => (wL_areNodesSo_143 g1 g2 (fun u402 u403 u404 u405 u406 u407 u408 u409 I410 z411 z412 => (wL_areNodesSo_173 g1 g2 (fun u413 u414 u415 u416 u417 u418 I419 z420 z421 => (wL_areNodesSo_208 g1 g2 (fun u422 I423 z424 z425 => (wL_areNodesSo_271 g1 g2 (fun u426 u427 I428 z429 z430 => (wL_areNodesSo_300 g1 g2 (fun u431 u432 I433 z434 z435 => (wL_areNodesSo_301 g1 g2 (fun u436 u437 I438 z439 z440 => (wL_areNodesSo_15 g1 g2 post n u436 u437 I438 z439 z440)) post u431 u432 I433 z434 z435)) post u426 u427 I428 z429 z430)) post u422 I423 z424 z425)) (fun u441 u442 I443 z444 z445 => (wL_areNodesSo_300 g1 g2 (fun u446 u447 I448 z449 z450 => (wL_areNodesSo_301 g1 g2 (fun u451 u452 I453 z454 z455 => (wL_areNodesSo_15 g1 g2 post n u451 u452 I453 z454 z455)) post u446 u447 I448 z449 z450)) post u441 u442 I443 z444 z445)) post u413 u414 u415 u416 u417 u418 I419 z420 z421)) post u402 u403 u404 u405 u406 u407 u408 u409 I410 z411 z412)) (fun u456 u457 u458 u459 u460 u461 I462 z463 z464 => (wL_areNodesSo_208 g1 g2 (fun u465 I466 z467 z468 => (wL_areNodesSo_271 g1 g2 (fun u469 u470 I471 z472 z473 => (wL_areNodesSo_300 g1 g2 (fun u474 u475 I476 z477 z478 => (wL_areNodesSo_301 g1 g2 (fun u479 u480 I481 z482 z483 => (wL_areNodesSo_15 g1 g2 post n u479 u480 I481 z482 z483)) post u474 u475 I476 z477 z478)) post u469 u470 I471 z472 z473)) post u465 I466 z467 z468)) (fun u484 u485 I486 z487 z488 => (wL_areNodesSo_300 g1 g2 (fun u489 u490 I491 z492 z493 => (wL_areNodesSo_301 g1 g2 (fun u494 u495 I496 z497 z498 => (wL_areNodesSo_15 g1 g2 post n u494 u495 I496 z497 z498)) post u489 u490 I491 z492 z493)) post u484 u485 I486 z487 z488)) post u456 u457 u458 u459 u460 u461 I462 z463 z464)) post u391 u392 u393 u394 u395 u396 u397 u398 I399 z400 z401)) post u381 u382 u383 u384 u385 u386 u387 I388 z389 z390)) post x4 r1 r3 r4 r5 1 I9 (kc + 1 + 1 + 1 + 1 + 1) (nc + 6 + 6 + 6 + 6 + 6)))))))))))))))))))))))))))))) := h
    refine V_iload dL_areNodesSo_15 rfl ?_
    refine V_bipush (v := 24) dL_areNodesSo_17 (by decide) ?_
    refine V_icmp_ge 307 dL_areNodesSo_19 rfl (fun hc => ?_) (fun hc => ?_)
    · replace h := h.1 hc
      refine V_iload_n dL_areNodesSo_307 rfl rfl ?_
      obtain ⟨hz, h⟩ := h
      exact V_zret dL_areNodesSo_308 rfl (q_nz hz) hk hn ⟨_, rfl, rfl, rfl, h⟩
    · replace h := h.2 hc
      refine V_iload_n dL_areNodesSo_22 rfl rfl ?_
      refine V_if_eq 307 dL_areNodesSo_23 rfl (fun hc => ?_) (fun hc => ?_)
      · replace h := h.1 hc
        refine V_iload_n dL_areNodesSo_307 rfl rfl ?_
        obtain ⟨hz, h⟩ := h
        exact V_zret dL_areNodesSo_308 rfl (q_nz hz) hk hn ⟨_, rfl, rfl, rfl, h⟩
      · replace h := h.2 hc
        refine V_aload_n dL_areNodesSo_26 rfl rfl ?_
        refine V_iload dL_areNodesSo_27 rfl ?_
        obtain ⟨hk9, hn9, h⟩ := h
        refine V_callSXi (st := []) [.ref 0, .int x4] dL_areNodesSo_29 ok_mL_rows (by decide) ml_RL_120 st_mL_rows (Nat.le_of_ble_eq_true rfl) (by decide) hk9 hn9 (s_mL_rows hS h) (fun r1 I2 J9 h => ?_)
        clear hk hn
        have hk := hk9
        have hn := hn9
        obtain ⟨rfl, h⟩ := h
        refine V_istore (lo2 := [(5, .int r1), (0, .ref 0), (1, .int x1), (2, .ref g1), (3, .ref g2), (4, .int x4)]) dL_areNodesSo_32 (by decide) rfl ?_
        refine V_aload_n dL_areNodesSo_34 rfl rfl ?_
        refine V_iload dL_areNodesSo_35 rfl ?_
        refine V_iconst (v := 0) dL_areNodesSo_37 (by decide) ?_
        obtain ⟨hk9, hn9, h⟩ := h
        refine V_callSXi (st := []) [.ref 0, .int x4, .int 0] dL_areNodesSo_38 ok_mL_node (by decide) ml_RL_148 st_mL_node (Nat.le_of_ble_eq_true rfl) (by decide) hk9 hn9 (s_mL_node hS h) (fun r3 I9 J9 h => ?_)
        clear hk hn
        have hk := hk9
        have hn := hn9
        obtain ⟨rfl, rfl, h⟩ := h
        refine V_istore (lo2 := [(6, .int r3), (5, .int r1), (0, .ref 0), (1, .int x1), (2, .ref g1), (3, .ref g2), (4, .int x4)]) dL_areNodesSo_41 (by decide) rfl ?_
        refine V_aload_n dL_areNodesSo_43 rfl rfl ?_
        refine V_iload dL_areNodesSo_44 rfl ?_
        refine V_iconst (v := 1) dL_areNodesSo_46 (by decide) ?_
        obtain ⟨hk9, hn9, h⟩ := h
        refine V_callSXi (st := []) [.ref 0, .int x4, .int 1] dL_areNodesSo_47 ok_mL_node (by decide) ml_RL_148 st_mL_node (Nat.le_of_ble_eq_true rfl) (by decide) hk9 hn9 (s_mL_node hS h) (fun r4 I9 J9 h => ?_)
        clear hk hn
        have hk := hk9
        have hn := hn9
        obtain ⟨rfl, rfl, h⟩ := h
        refine V_istore (lo2 := [(7, .int r4), (6, .int r3), (5, .int r1), (0, .ref 0), (1, .int x1), (2, .ref g1), (3, .ref g2), (4, .int x4)]) dL_areNodesSo_50 (by decide) rfl ?_
        refine V_aload_n dL_areNodesSo_52 rfl rfl ?_
        refine V_iload dL_areNodesSo_53 rfl ?_
        refine V_iconst (v := 2) dL_areNodesSo_55 (by decide) ?_
        obtain ⟨hk9, hn9, h⟩ := h
        refine V_callSXi (st := []) [.ref 0, .int x4, .int 2] dL_areNodesSo_56 ok_mL_node (by decide) ml_RL_148 st_mL_node (Nat.le_of_ble_eq_true rfl) (by decide) hk9 hn9 (s_mL_node hS h) (fun r5 I9 J9 h => ?_)
        clear hk hn
        have hk := hk9
        have hn := hn9
        obtain ⟨rfl, rfl, h⟩ := h
        refine V_istore (lo2 := [(8, .int r5), (7, .int r4), (6, .int r3), (5, .int r1), (0, .ref 0), (1, .int x1), (2, .ref g1), (3, .ref g2), (4, .int x4)]) dL_areNodesSo_59 (by decide) rfl ?_
        refine V_aload_n dL_areNodesSo_61 rfl rfl ?_
        refine V_iload dL_areNodesSo_62 rfl ?_
        refine V_iload dL_areNodesSo_64 rfl ?_
        obtain ⟨hb, h⟩ := h
        refine V_iast dL_areNodesSo_66 hNg1 hKg1 (by rw [hZg1]; exact hb) ?_
        refine V_memI (fun I6 e_I6 => ?_)
        replace h := h I6 e_I6
        refine V_aload_n dL_areNodesSo_67 rfl rfl ?_
        refine V_iload dL_areNodesSo_68 rfl ?_
        refine V_aload_n dL_areNodesSo_70 rfl rfl ?_
        refine V_iload dL_areNodesSo_71 rfl ?_
        obtain ⟨hk9, hn9, h⟩ := h
        refine V_callSXi (st := [.int x4, .ref g2]) [.ref 0, .int x4] dL_areNodesSo_73 ok_mL_steps (by decide) ml_RL_127 st_mL_steps (Nat.le_of_ble_eq_true rfl) (by decide) hk9 hn9 (s_mL_steps hS h) (fun r7 I8 J9 h => ?_)
        clear hk hn
        have hk := hk9
        have hn := hn9
        obtain ⟨rfl, h⟩ := h
        obtain ⟨hb, h⟩ := h
        refine V_iast dL_areNodesSo_76 hNg2 hKg2 (by rw [hZg2]; exact hb) ?_
        refine V_memI (fun I9 e_I9 => ?_)
        replace h := h I9 e_I9
        refine V_iload dL_areNodesSo_77 rfl ?_
        refine V_if_le 301 dL_areNodesSo_79 rfl (fun hc => ?_) (fun hc => ?_)
        · replace h := h.1 hc
          refine V_sub (lo2 := [(0, .ref 0), (1, .int x1), (2, .ref g1), (3, .ref g2), (4, .int x4)]) [4, 5, 6, 7, 8] rfl ?_
          refine swL_areNodesSo_301 hS hNg1 hKg1 hZg1 hNg2 hKg2 hZg2 ?_ _ _ _ _ _ hk hn h
          · intro u11 u12 I13 z14 z15 hk hn h
            exact ih _ _ _ _ _ hk hn h
        · replace h := h.2 hc
          refine V_iload dL_areNodesSo_82 rfl ?_
          refine V_if_lt 301 dL_areNodesSo_84 rfl (fun hc => ?_) (fun hc => ?_)
          · replace h := h.1 hc
            refine V_sub (lo2 := [(0, .ref 0), (1, .int x1), (2, .ref g1), (3, .ref g2), (4, .int x4)]) [4, 5, 6, 7, 8] rfl ?_
            refine swL_areNodesSo_301 hS hNg1 hKg1 hZg1 hNg2 hKg2 hZg2 ?_ _ _ _ _ _ hk hn h
            · intro u16 u17 I18 z19 z20 hk hn h
              exact ih _ _ _ _ _ hk hn h
          · replace h := h.2 hc
            refine V_iload dL_areNodesSo_87 rfl ?_
            refine V_if_lt 110 dL_areNodesSo_89 rfl (fun hc => ?_) (fun hc => ?_)
            · replace h := h.1 hc
              refine V_iconst (v := 0) dL_areNodesSo_110 (by decide) ?_
              refine V_sub (lo2 := [(0, .ref 0), (2, .ref g1), (3, .ref g2), (4, .int x4), (5, .int r1), (6, .int r3), (7, .int r4), (8, .int r5)]) [4, 6, 7, 8, 3, 2, 1, 0] rfl ?_
              refine swL_areNodesSo_111 hS hNg1 hKg1 hZg1 hNg2 hKg2 hZg2 ?_ _ _ _ _ _ _ _ _ _ hk hn h
              · intro u21 u22 u23 u24 u25 u26 u27 I28 z29 z30 hk hn h
                refine swL_areNodesSo_124 hS hNg1 hKg1 hZg1 hNg2 hKg2 hZg2 ?_ _ _ _ _ _ _ _ _ _ _ hk hn h
                · intro u31 u32 u33 u34 u35 u36 u37 u38 I39 z40 z41 hk hn h
                  refine swL_areNodesSo_143 hS hNg1 hKg1 hZg1 hNg2 hKg2 hZg2 ?_ ?_ _ _ _ _ _ _ _ _ _ _ _ hk hn h
                  · intro u42 u43 u44 u45 u46 u47 u48 u49 I50 z51 z52 hk hn h
                    refine swL_areNodesSo_173 hS hNg1 hKg1 hZg1 hNg2 hKg2 hZg2 ?_ _ _ _ _ _ _ _ _ _ _ _ hk hn h
                    · intro u57 u58 u59 u60 u61 u62 I63 z64 z65 hk hn h
                      refine swL_areNodesSo_208 hS hNg1 hKg1 hZg1 hNg2 hKg2 hZg2 ?_ ?_ _ _ _ _ _ _ _ _ _ hk hn h
                      · intro u66 I67 z68 z69 hk hn h
                        refine swL_areNodesSo_271 hS hNg1 hKg1 hZg1 hNg2 hKg2 hZg2 ?_ _ _ _ _ hk hn h
                        · intro u72 u73 I74 z75 z76 hk hn h
                          refine swL_areNodesSo_300 hS hNg1 hKg1 hZg1 hNg2 hKg2 hZg2 ?_ _ _ _ _ _ hk hn h
                          · intro u77 u78 I79 z80 z81 hk hn h
                            refine swL_areNodesSo_301 hS hNg1 hKg1 hZg1 hNg2 hKg2 hZg2 ?_ _ _ _ _ _ hk hn h
                            · intro u82 u83 I84 z85 z86 hk hn h
                              exact ih _ _ _ _ _ hk hn h
                      · intro u87 u88 I89 z90 z91 hk hn h
                        refine swL_areNodesSo_300 hS hNg1 hKg1 hZg1 hNg2 hKg2 hZg2 ?_ _ _ _ _ _ hk hn h
                        · intro u92 u93 I94 z95 z96 hk hn h
                          refine swL_areNodesSo_301 hS hNg1 hKg1 hZg1 hNg2 hKg2 hZg2 ?_ _ _ _ _ _ hk hn h
                          · intro u97 u98 I99 z100 z101 hk hn h
                            exact ih _ _ _ _ _ hk hn h
                  · intro u102 u103 u104 u105 u106 u107 I108 z109 z110 hk hn h
                    refine swL_areNodesSo_208 hS hNg1 hKg1 hZg1 hNg2 hKg2 hZg2 ?_ ?_ _ _ _ _ _ _ _ _ _ hk hn h
                    · intro u111 I112 z113 z114 hk hn h
                      refine swL_areNodesSo_271 hS hNg1 hKg1 hZg1 hNg2 hKg2 hZg2 ?_ _ _ _ _ hk hn h
                      · intro u115 u116 I117 z118 z119 hk hn h
                        refine swL_areNodesSo_300 hS hNg1 hKg1 hZg1 hNg2 hKg2 hZg2 ?_ _ _ _ _ _ hk hn h
                        · intro u120 u121 I122 z123 z124 hk hn h
                          refine swL_areNodesSo_301 hS hNg1 hKg1 hZg1 hNg2 hKg2 hZg2 ?_ _ _ _ _ _ hk hn h
                          · intro u125 u126 I127 z128 z129 hk hn h
                            exact ih _ _ _ _ _ hk hn h
                    · intro u130 u131 I132 z133 z134 hk hn h
                      refine swL_areNodesSo_300 hS hNg1 hKg1 hZg1 hNg2 hKg2 hZg2 ?_ _ _ _ _ _ hk hn h
                      · intro u135 u136 I137 z138 z139 hk hn h
                        refine swL_areNodesSo_301 hS hNg1 hKg1 hZg1 hNg2 hKg2 hZg2 ?_ _ _ _ _ _ hk hn h
                        · intro u140 u141 I142 z143 z144 hk hn h
                          exact ih _ _ _ _ _ hk hn h
            · replace h := h.2 hc
              refine V_iload dL_areNodesSo_92 rfl ?_
              refine V_iload dL_areNodesSo_94 rfl ?_
              refine V_icmp_ge 110 dL_areNodesSo_96 rfl (fun hc => ?_) (fun hc => ?_)
              · replace h := h.1 hc
                refine V_iconst (v := 0) dL_areNodesSo_110 (by decide) ?_
                refine V_sub (lo2 := [(0, .ref 0), (2, .ref g1), (3, .ref g2), (4, .int x4), (5, .int r1), (6, .int r3), (7, .int r4), (8, .int r5)]) [4, 6, 7, 8, 3, 2, 1, 0] rfl ?_
                refine swL_areNodesSo_111 hS hNg1 hKg1 hZg1 hNg2 hKg2 hZg2 ?_ _ _ _ _ _ _ _ _ _ hk hn h
                · intro u145 u146 u147 u148 u149 u150 u151 I152 z153 z154 hk hn h
                  refine swL_areNodesSo_124 hS hNg1 hKg1 hZg1 hNg2 hKg2 hZg2 ?_ _ _ _ _ _ _ _ _ _ _ hk hn h
                  · intro u155 u156 u157 u158 u159 u160 u161 u162 I163 z164 z165 hk hn h
                    refine swL_areNodesSo_143 hS hNg1 hKg1 hZg1 hNg2 hKg2 hZg2 ?_ ?_ _ _ _ _ _ _ _ _ _ _ _ hk hn h
                    · intro u166 u167 u168 u169 u170 u171 u172 u173 I174 z175 z176 hk hn h
                      refine swL_areNodesSo_173 hS hNg1 hKg1 hZg1 hNg2 hKg2 hZg2 ?_ _ _ _ _ _ _ _ _ _ _ _ hk hn h
                      · intro u177 u178 u179 u180 u181 u182 I183 z184 z185 hk hn h
                        refine swL_areNodesSo_208 hS hNg1 hKg1 hZg1 hNg2 hKg2 hZg2 ?_ ?_ _ _ _ _ _ _ _ _ _ hk hn h
                        · intro u186 I187 z188 z189 hk hn h
                          refine swL_areNodesSo_271 hS hNg1 hKg1 hZg1 hNg2 hKg2 hZg2 ?_ _ _ _ _ hk hn h
                          · intro u190 u191 I192 z193 z194 hk hn h
                            refine swL_areNodesSo_300 hS hNg1 hKg1 hZg1 hNg2 hKg2 hZg2 ?_ _ _ _ _ _ hk hn h
                            · intro u195 u196 I197 z198 z199 hk hn h
                              refine swL_areNodesSo_301 hS hNg1 hKg1 hZg1 hNg2 hKg2 hZg2 ?_ _ _ _ _ _ hk hn h
                              · intro u200 u201 I202 z203 z204 hk hn h
                                exact ih _ _ _ _ _ hk hn h
                        · intro u205 u206 I207 z208 z209 hk hn h
                          refine swL_areNodesSo_300 hS hNg1 hKg1 hZg1 hNg2 hKg2 hZg2 ?_ _ _ _ _ _ hk hn h
                          · intro u210 u211 I212 z213 z214 hk hn h
                            refine swL_areNodesSo_301 hS hNg1 hKg1 hZg1 hNg2 hKg2 hZg2 ?_ _ _ _ _ _ hk hn h
                            · intro u215 u216 I217 z218 z219 hk hn h
                              exact ih _ _ _ _ _ hk hn h
                    · intro u220 u221 u222 u223 u224 u225 I226 z227 z228 hk hn h
                      refine swL_areNodesSo_208 hS hNg1 hKg1 hZg1 hNg2 hKg2 hZg2 ?_ ?_ _ _ _ _ _ _ _ _ _ hk hn h
                      · intro u229 I230 z231 z232 hk hn h
                        refine swL_areNodesSo_271 hS hNg1 hKg1 hZg1 hNg2 hKg2 hZg2 ?_ _ _ _ _ hk hn h
                        · intro u233 u234 I235 z236 z237 hk hn h
                          refine swL_areNodesSo_300 hS hNg1 hKg1 hZg1 hNg2 hKg2 hZg2 ?_ _ _ _ _ _ hk hn h
                          · intro u238 u239 I240 z241 z242 hk hn h
                            refine swL_areNodesSo_301 hS hNg1 hKg1 hZg1 hNg2 hKg2 hZg2 ?_ _ _ _ _ _ hk hn h
                            · intro u243 u244 I245 z246 z247 hk hn h
                              exact ih _ _ _ _ _ hk hn h
                      · intro u248 u249 I250 z251 z252 hk hn h
                        refine swL_areNodesSo_300 hS hNg1 hKg1 hZg1 hNg2 hKg2 hZg2 ?_ _ _ _ _ _ hk hn h
                        · intro u253 u254 I255 z256 z257 hk hn h
                          refine swL_areNodesSo_301 hS hNg1 hKg1 hZg1 hNg2 hKg2 hZg2 ?_ _ _ _ _ _ hk hn h
                          · intro u258 u259 I260 z261 z262 hk hn h
                            exact ih _ _ _ _ _ hk hn h
              · replace h := h.2 hc
                refine V_iload dL_areNodesSo_99 rfl ?_
                refine V_iload dL_areNodesSo_101 rfl ?_
                refine V_icmp_ge 110 dL_areNodesSo_103 rfl (fun hc => ?_) (fun hc => ?_)
                · replace h := h.1 hc
                  refine V_iconst (v := 0) dL_areNodesSo_110 (by decide) ?_
                  refine V_sub (lo2 := [(0, .ref 0), (2, .ref g1), (3, .ref g2), (4, .int x4), (5, .int r1), (6, .int r3), (7, .int r4), (8, .int r5)]) [4, 6, 7, 8, 3, 2, 1, 0] rfl ?_
                  refine swL_areNodesSo_111 hS hNg1 hKg1 hZg1 hNg2 hKg2 hZg2 ?_ _ _ _ _ _ _ _ _ _ hk hn h
                  · intro u263 u264 u265 u266 u267 u268 u269 I270 z271 z272 hk hn h
                    refine swL_areNodesSo_124 hS hNg1 hKg1 hZg1 hNg2 hKg2 hZg2 ?_ _ _ _ _ _ _ _ _ _ _ hk hn h
                    · intro u273 u274 u275 u276 u277 u278 u279 u280 I281 z282 z283 hk hn h
                      refine swL_areNodesSo_143 hS hNg1 hKg1 hZg1 hNg2 hKg2 hZg2 ?_ ?_ _ _ _ _ _ _ _ _ _ _ _ hk hn h
                      · intro u284 u285 u286 u287 u288 u289 u290 u291 I292 z293 z294 hk hn h
                        refine swL_areNodesSo_173 hS hNg1 hKg1 hZg1 hNg2 hKg2 hZg2 ?_ _ _ _ _ _ _ _ _ _ _ _ hk hn h
                        · intro u295 u296 u297 u298 u299 u300 I301 z302 z303 hk hn h
                          refine swL_areNodesSo_208 hS hNg1 hKg1 hZg1 hNg2 hKg2 hZg2 ?_ ?_ _ _ _ _ _ _ _ _ _ hk hn h
                          · intro u304 I305 z306 z307 hk hn h
                            refine swL_areNodesSo_271 hS hNg1 hKg1 hZg1 hNg2 hKg2 hZg2 ?_ _ _ _ _ hk hn h
                            · intro u308 u309 I310 z311 z312 hk hn h
                              refine swL_areNodesSo_300 hS hNg1 hKg1 hZg1 hNg2 hKg2 hZg2 ?_ _ _ _ _ _ hk hn h
                              · intro u313 u314 I315 z316 z317 hk hn h
                                refine swL_areNodesSo_301 hS hNg1 hKg1 hZg1 hNg2 hKg2 hZg2 ?_ _ _ _ _ _ hk hn h
                                · intro u318 u319 I320 z321 z322 hk hn h
                                  exact ih _ _ _ _ _ hk hn h
                          · intro u323 u324 I325 z326 z327 hk hn h
                            refine swL_areNodesSo_300 hS hNg1 hKg1 hZg1 hNg2 hKg2 hZg2 ?_ _ _ _ _ _ hk hn h
                            · intro u328 u329 I330 z331 z332 hk hn h
                              refine swL_areNodesSo_301 hS hNg1 hKg1 hZg1 hNg2 hKg2 hZg2 ?_ _ _ _ _ _ hk hn h
                              · intro u333 u334 I335 z336 z337 hk hn h
                                exact ih _ _ _ _ _ hk hn h
                      · intro u338 u339 u340 u341 u342 u343 I344 z345 z346 hk hn h
                        refine swL_areNodesSo_208 hS hNg1 hKg1 hZg1 hNg2 hKg2 hZg2 ?_ ?_ _ _ _ _ _ _ _ _ _ hk hn h
                        · intro u347 I348 z349 z350 hk hn h
                          refine swL_areNodesSo_271 hS hNg1 hKg1 hZg1 hNg2 hKg2 hZg2 ?_ _ _ _ _ hk hn h
                          · intro u351 u352 I353 z354 z355 hk hn h
                            refine swL_areNodesSo_300 hS hNg1 hKg1 hZg1 hNg2 hKg2 hZg2 ?_ _ _ _ _ _ hk hn h
                            · intro u356 u357 I358 z359 z360 hk hn h
                              refine swL_areNodesSo_301 hS hNg1 hKg1 hZg1 hNg2 hKg2 hZg2 ?_ _ _ _ _ _ hk hn h
                              · intro u361 u362 I363 z364 z365 hk hn h
                                exact ih _ _ _ _ _ hk hn h
                        · intro u366 u367 I368 z369 z370 hk hn h
                          refine swL_areNodesSo_300 hS hNg1 hKg1 hZg1 hNg2 hKg2 hZg2 ?_ _ _ _ _ _ hk hn h
                          · intro u371 u372 I373 z374 z375 hk hn h
                            refine swL_areNodesSo_301 hS hNg1 hKg1 hZg1 hNg2 hKg2 hZg2 ?_ _ _ _ _ _ hk hn h
                            · intro u376 u377 I378 z379 z380 hk hn h
                              exact ih _ _ _ _ _ hk hn h
                · replace h := h.2 hc
                  refine V_iconst (v := 1) dL_areNodesSo_106 (by decide) ?_
                  refine V_goto 111 dL_areNodesSo_107 rfl ?_
                  refine V_sub (lo2 := [(0, .ref 0), (2, .ref g1), (3, .ref g2), (4, .int x4), (5, .int r1), (6, .int r3), (7, .int r4), (8, .int r5)]) [4, 6, 7, 8, 3, 2, 1, 0] rfl ?_
                  refine swL_areNodesSo_111 hS hNg1 hKg1 hZg1 hNg2 hKg2 hZg2 ?_ _ _ _ _ _ _ _ _ _ hk hn h
                  · intro u381 u382 u383 u384 u385 u386 u387 I388 z389 z390 hk hn h
                    refine swL_areNodesSo_124 hS hNg1 hKg1 hZg1 hNg2 hKg2 hZg2 ?_ _ _ _ _ _ _ _ _ _ _ hk hn h
                    · intro u391 u392 u393 u394 u395 u396 u397 u398 I399 z400 z401 hk hn h
                      refine swL_areNodesSo_143 hS hNg1 hKg1 hZg1 hNg2 hKg2 hZg2 ?_ ?_ _ _ _ _ _ _ _ _ _ _ _ hk hn h
                      · intro u402 u403 u404 u405 u406 u407 u408 u409 I410 z411 z412 hk hn h
                        refine swL_areNodesSo_173 hS hNg1 hKg1 hZg1 hNg2 hKg2 hZg2 ?_ _ _ _ _ _ _ _ _ _ _ _ hk hn h
                        · intro u413 u414 u415 u416 u417 u418 I419 z420 z421 hk hn h
                          refine swL_areNodesSo_208 hS hNg1 hKg1 hZg1 hNg2 hKg2 hZg2 ?_ ?_ _ _ _ _ _ _ _ _ _ hk hn h
                          · intro u422 I423 z424 z425 hk hn h
                            refine swL_areNodesSo_271 hS hNg1 hKg1 hZg1 hNg2 hKg2 hZg2 ?_ _ _ _ _ hk hn h
                            · intro u426 u427 I428 z429 z430 hk hn h
                              refine swL_areNodesSo_300 hS hNg1 hKg1 hZg1 hNg2 hKg2 hZg2 ?_ _ _ _ _ _ hk hn h
                              · intro u431 u432 I433 z434 z435 hk hn h
                                refine swL_areNodesSo_301 hS hNg1 hKg1 hZg1 hNg2 hKg2 hZg2 ?_ _ _ _ _ _ hk hn h
                                · intro u436 u437 I438 z439 z440 hk hn h
                                  exact ih _ _ _ _ _ hk hn h
                          · intro u441 u442 I443 z444 z445 hk hn h
                            refine swL_areNodesSo_300 hS hNg1 hKg1 hZg1 hNg2 hKg2 hZg2 ?_ _ _ _ _ _ hk hn h
                            · intro u446 u447 I448 z449 z450 hk hn h
                              refine swL_areNodesSo_301 hS hNg1 hKg1 hZg1 hNg2 hKg2 hZg2 ?_ _ _ _ _ _ hk hn h
                              · intro u451 u452 I453 z454 z455 hk hn h
                                exact ih _ _ _ _ _ hk hn h
                      · intro u456 u457 u458 u459 u460 u461 I462 z463 z464 hk hn h
                        refine swL_areNodesSo_208 hS hNg1 hKg1 hZg1 hNg2 hKg2 hZg2 ?_ ?_ _ _ _ _ _ _ _ _ _ hk hn h
                        · intro u465 I466 z467 z468 hk hn h
                          refine swL_areNodesSo_271 hS hNg1 hKg1 hZg1 hNg2 hKg2 hZg2 ?_ _ _ _ _ hk hn h
                          · intro u469 u470 I471 z472 z473 hk hn h
                            refine swL_areNodesSo_300 hS hNg1 hKg1 hZg1 hNg2 hKg2 hZg2 ?_ _ _ _ _ _ hk hn h
                            · intro u474 u475 I476 z477 z478 hk hn h
                              refine swL_areNodesSo_301 hS hNg1 hKg1 hZg1 hNg2 hKg2 hZg2 ?_ _ _ _ _ _ hk hn h
                              · intro u479 u480 I481 z482 z483 hk hn h
                                exact ih _ _ _ _ _ hk hn h
                        · intro u484 u485 I486 z487 z488 hk hn h
                          refine swL_areNodesSo_300 hS hNg1 hKg1 hZg1 hNg2 hKg2 hZg2 ?_ _ _ _ _ _ hk hn h
                          · intro u489 u490 I491 z492 z493 hk hn h
                            refine swL_areNodesSo_301 hS hNg1 hKg1 hZg1 hNg2 hKg2 hZg2 ?_ _ _ _ _ _ hk hn h
                            · intro u494 u495 I496 z497 z498 hk hn h
                              exact ih _ _ _ _ _ hk hn h
def wL_areNodesSo (N : Nat) (I : QI) (post : Int32 → QI → Prop) : Prop := N < 898990 ∧ ∀ I1 : QI, I1 = q_rw (q_rw I N (fun _ => 0)) (N + 1) (fun _ => 0) → (∃ f : Nat, wL_areNodesSo_15 N (N + 1) post f 1 0 I1 2 48)
set_option maxRecDepth 100000 in
set_option maxHeartbeats 4000000 in
theorem s_mL_areNodesSo {X : QX} {S : QS} {I : QI} {J : QJ} {post : Int32 → QI → Prop} (hA : Sl X S) (h : wL_areNodesSo S.2.1 I post) : CX X mL_areNodesSo 9 400 3000 [.ref 0] S I J (q_Pn X S J post) := by
  obtain ⟨hS, hW, hM, hN9, hcl, hScr⟩ := hA
  obtain ⟨hb, h⟩ := h
  refine CX.of (lo := [(0, .ref 0)]) ok_mL_areNodesSo rfl (Nat.le_of_ble_eq_true rfl) rfl ?_
  refine V_iconst (v := 1) dL_areNodesSo_0 (by decide) ?_
  refine V_istore_n (lo2 := [(1, .int 1), (0, .ref 0)]) dL_areNodesSo_1 rfl (by decide) rfl ?_
  refine V_bipush (v := 24) dL_areNodesSo_2 (by decide) ?_
  have hvb : ∀ (T : QS), S.2.1 ≤ T.2.1 → ∀ l : List Value, (∀ v ∈ l, v = .ref 0 ∨ v = .int 1 ∨ v = .ref S.2.1 ∧ S.2.1 < T.2.1) → q_vb T.2.1 l := by
    intro T hT l hl r hr
    rcases hl _ hr with e | e | ⟨e, e2⟩
    · cases e; exact Or.inl (Nat.lt_of_lt_of_le (Nat.lt_of_lt_of_le (by decide) hM) hT)
    · cases e
    · cases e; exact Or.inl e2
  refine V_newI (z := 24) dL_areNodesSo_4 ac_int (by decide) (by decide) (by decide) (by omega) hcl (hvb S (Nat.le_refl _) _ (by simp)) (hvb S (Nat.le_refl _) _ (by simp)) (by decide) (by decide) (fun a => ?_)
  refine V_astore_n (lo2 := [(2, .ref S.2.1), (1, .int 1), (0, .ref 0)]) dL_areNodesSo_6 rfl (by decide) rfl ?_
  refine V_bipush (v := 24) dL_areNodesSo_7 (by decide) ?_
  have hN1 : (q_nS S a 9 24).2.1 = S.2.1 + 1 := rfl
  refine V_newI (z := 24) dL_areNodesSo_9 ac_int (by decide) (by decide) (by decide) (by omega) (q_cl_new hcl a 9 24) (hvb _ (by omega) _ (by simp [hN1])) (hvb _ (by omega) _ (by simp)) (by decide) (by decide) (fun b => ?_)
  refine V_astore_n (lo2 := [(3, .ref (S.2.1 + 1)), (2, .ref S.2.1), (1, .int 1), (0, .ref 0)]) dL_areNodesSo_11 rfl (by decide) rfl ?_
  refine V_iconst (v := 0) dL_areNodesSo_12 (by decide) ?_
  refine V_istore (lo2 := [(4, .int 0), (3, .ref (S.2.1 + 1)), (2, .ref S.2.1), (1, .int 1), (0, .ref 0)]) dL_areNodesSo_13 (by decide) rfl ?_
  obtain ⟨T, eT⟩ : ∃ T, T = q_nS (q_nS S a 9 24) b 9 24 := ⟨_, rfl⟩
  have hNT : T.2.1 = S.2.1 + 2 := by rw [eT]; rfl
  have hST : Sh T := by rw [eT]; exact (hS.new a 9 24).new b 9 24
  have hET : Ex S T := by rw [eT]; exact (Ex.new S (by omega) a 9 24).tr (Ex.new _ (by omega) b 9 24)
  have hWT : Sh (q_sS T) := by
    rw [eT, q_sS_nS (by omega), q_sS_nS hM]
    exact (hW.new a 9 24).new b 9 24
  have hcT : q_cl T := by rw [eT]; exact q_cl_new (q_cl_new hcl a 9 24) b 9 24
  have hAT : Sl X T := ⟨hST, hWT, by omega, by omega, hcT, (hET.2.2 1000000 (by decide)).trans hScr⟩
  have hK1 : T.2.2.1 S.2.1 = 9 := by rw [eT]; exact (if_neg (by rw [hN1]; omega)).trans (if_pos rfl)
  have hZ1 : T.2.2.2.1 S.2.1 = 24 := by rw [eT]; exact (if_neg (by rw [hN1]; omega)).trans (if_pos rfl)
  have hK2 : T.2.2.1 (S.2.1 + 1) = 9 := by rw [eT]; exact if_pos rfl
  have hZ2 : T.2.2.2.1 (S.2.1 + 1) = 24 := by rw [eT]; exact if_pos rfl
  obtain ⟨f9, h⟩ := h _ rfl
  rw [← eT]
  refine V_post (Q := q_Pi T (fun r I2 J2 => J = J2 ∧ post r I2)) ?_ ?_
  · rintro o S9 I9 J9 ⟨r, e1, e2, e3, e4⟩
    subst e2
    exact ⟨r, e1, hET, hAT, hNT, e3, e4⟩
  refine V_sub (lo2 := [(0, .ref 0), (1, .int 1), (2, .ref S.2.1), (3, .ref (S.2.1 + 1)), (4, .int 0)]) [4, 3, 2, 1, 0] rfl ?_
  exact swL_areNodesSo_15 hST (by omega) hK1 hZ1 (by omega) hK2 hZ2 f9 _ _ _ _ _ (by decide) (by decide) h
