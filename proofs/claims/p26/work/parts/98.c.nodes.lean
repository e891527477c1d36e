/-! pure: the nodes' check says yes -/
def RV (Z : Zs) (n : Nat) : Int32 := if n < Z.2.1.length then rowsR Z n else -99999
def SV (Z : Zs) (n : Nat) : Int32 := if n < Z.2.1.length then stepsR Z n else -99999
section NK
variable {Z : Zs} {i : Nat} {I : QI} {r : Int32} {w : WT}
theorem al_of (hw : Rw Z) (h : Sp9 i i Z Z r w) (hB : Both I Z i) {Q : Int32 → QI → Prop} (k : ∀ I2, Both I2 Z i → Fr9 I I2 → Q r I2) : w I Q := h I Q hB.1 (fun I2 h2 hf => k I2 (hB.o hw h2 hf) hf)
theorem Both.u {g j : Nat} {x : Int32} (hw : Rw Z) (hB : Both I Z i) (hg : 102 ≤ g) : Both (q_u2 I g j x) Z i := ⟨hB.1.cg hw (fun b hb => nr_u2 (by omega)), hB.2.cg hw (fun b hb => by
  show q_u2 I g j x (q_s b) = I (q_s b)
  rw [q_s_lo hb, nr_u2 (by omega)])⟩
theorem Both.aw {g : Nat} {x : Nat → Int32} (hw : Rw Z) (hB : Both I Z i) (hg : 102 ≤ g) : Both (q_rw I g x) Z i := ⟨hB.1.cg hw (fun b hb => if_neg (by omega)), hB.2.cg hw (fun b hb => by
  show q_rw I g x (q_s b) = I (q_s b)
  rw [q_s_lo hb]
  exact if_neg (by omega))⟩
theorem RV_c (hw : Rw Z) (hi : i < 512) {j : Nat} (hj : j < 24) : Sp9 i i Z Z (RV Z j) (wL_rows (nI j)) := by
  unfold RV
  by_cases h : j < Z.2.1.length
  · rw [if_pos h]; exact c_rows_t hw hi h
  · rw [if_neg h]
    have := hw.2.1.1
    exact c_rows_f (Or.inr (by rw [nI_leI (by omega) (by omega)]; omega))
theorem SV_c (hw : Rw Z) (hi : i < 512) {j : Nat} (hj : j < 24) : Sp9 i i Z Z (SV Z j) (wL_steps (nI j)) := by
  unfold SV
  by_cases h : j < Z.2.1.length
  · rw [if_pos h]; exact c_steps_t hw hi h
  · rw [if_neg h]
    have := hw.2.1.1
    exact c_steps_f (Or.inr (by rw [nI_leI (by omega) (by omega)]; omega))
theorem RV_p {m : Nat} (hm : m < Z.2.1.length) (hp : psb Z.1 Z.2.1 m Z.2.2.1 = true) : RV Z m = nI (oL (EV Z.1 Z.2.1 m)) := by
  unfold RV rowsR
  rw [if_pos hm, if_pos hp]
theorem SV_p {m : Nat} (hm : m < Z.2.1.length) (hp : psb Z.1 Z.2.1 m Z.2.2.1 = true) : SV Z m = nI (ST Z.1 Z.2.1 m) := by
  unfold SV stepsR
  rw [if_pos hm, if_pos hp]
theorem n_111 {g1 g2 kc nc : Nat} {K124 : Int32 → Int32 → Int32 → Int32 → Int32 → Int32 → Int32 → QI → Nat → Nat → Prop} {post : Int32 → QI → Prop} {x4 x5 x6 x7 x8 v : Int32} (hv : vp_in x7 24) (e : I g1 x7.toNatClampNeg = v) (h : K124 1 x4 x5 x6 x7 x8 v I kc nc) : wL_areNodesSo_111 g1 g2 K124 post x4 x5 x6 x7 x8 1 I kc nc := ⟨fun z => absurd z (by decide), fun _ => ⟨hv, by rw [e]; exact h⟩⟩
theorem n_124a {g1 g2 kc nc : Nat} {K143 : Int32 → Int32 → Int32 → Int32 → Int32 → Int32 → Int32 → Int32 → QI → Nat → Nat → Prop} {post : Int32 → QI → Prop} {x4 x5 x6 x7 x8 y0 : Int32} (hx : x8 < 0) (h : K143 1 x4 x5 x6 x7 x8 y0 0 I kc nc) : wL_areNodesSo_124 g1 g2 K143 post 1 x4 x5 x6 x7 x8 y0 I kc nc := ⟨fun _ => h, fun z => absurd hx z⟩
theorem n_124b {g1 g2 kc nc : Nat} {K143 : Int32 → Int32 → Int32 → Int32 → Int32 → Int32 → Int32 → Int32 → QI → Nat → Nat → Prop} {post : Int32 → QI → Prop} {x4 x5 x6 x7 x8 y0 v : Int32} (hx : ¬ x8 < 0) (hv : vp_in x8 24) (e : I g1 x8.toNatClampNeg = v) (h : K143 1 x4 x5 x6 x7 x8 y0 v I kc nc) : wL_areNodesSo_124 g1 g2 K143 post 1 x4 x5 x6 x7 x8 y0 I kc nc := ⟨fun z => absurd z hx, fun _ => ⟨fun _ => ⟨hv, by rw [e]; exact h⟩, fun z => absurd z (by decide)⟩⟩
theorem n_143a {g1 g2 kc nc : Nat} {K173 : Int32 → Int32 → Int32 → Int32 → Int32 → Int32 → Int32 → Int32 → QI → Nat → Nat → Prop} {K208 : Int32 → Int32 → Int32 → Int32 → Int32 → Int32 → QI → Nat → Nat → Prop} {post : Int32 → QI → Prop} {x4 x5 x6 x7 x8 x9 y0 v4 v7 : Int32} (h4 : vp_in x4 24) (h7 : vp_in x7 24) (hx : ¬ 0 ≤ x8) (e4 : I g2 x4.toNatClampNeg = v4) (e7 : I g2 x7.toNatClampNeg = v7) (h : K173 x4 x5 x6 x9 y0 0 (x5 + v7) v4 I kc nc) : wL_areNodesSo_143 g1 g2 K173 K208 post 1 x4 x5 x6 x7 x8 x9 y0 I kc nc := ⟨fun z => absurd z (by decide), fun _ => ⟨h4, h7, fun z => absurd z hx, fun _ => by rw [e4, e7]; exact h⟩⟩
theorem n_143b {g1 g2 kc nc : Nat} {K173 : Int32 → Int32 → Int32 → Int32 → Int32 → Int32 → Int32 → Int32 → QI → Nat → Nat → Prop} {K208 : Int32 → Int32 → Int32 → Int32 → Int32 → Int32 → QI → Nat → Nat → Prop} {post : Int32 → QI → Prop} {x4 x5 x6 x7 x8 x9 y0 v4 v7 v8 : Int32} (h4 : vp_in x4 24) (h7 : vp_in x7 24) (hx : 0 ≤ x8) (h8 : vp_in x8 24) (e4 : I g2 x4.toNatClampNeg = v4) (e7 : I g2 x7.toNatClampNeg = v7) (e8 : I g2 x8.toNatClampNeg = v8) (h : K173 x4 x5 x6 x9 y0 v8 (x5 + v7) v4 I kc nc) : wL_areNodesSo_143 g1 g2 K173 K208 post 1 x4 x5 x6 x7 x8 x9 y0 I kc nc := ⟨fun z => absurd z (by decide), fun _ => ⟨h4, h7, fun _ => ⟨h8, by rw [e4, e7, e8]; exact h⟩, fun z => absurd hx z⟩⟩
/-- what nodes of a kind give against what they are made of -/
theorem n_208 {g1 g2 kc nc : Nat} {K271 : Int32 → QI → Nat → Nat → Prop} {K300 : Int32 → Int32 → QI → Nat → Nat → Prop} {post : Int32 → QI → Prop} {x4 : Int32} {t l a b : Nat} (ht : t < 5) (ht0 : t ≠ 0) (hl : l ≤ 200) (ha : a ≤ 200) (hb : b ≤ 200) (h13 : t = 1 ∨ t = 3 → l ≤ a) (h2 : t = 2 → l ≤ a * b ∨ l ≤ a) (h4 : t = 4 → l ≤ a + b) (h : K271 x4 I kc nc) : wL_areNodesSo_208 g1 g2 K271 K300 post x4 (nI l) (nI t) (nI a) (nI b) 1 I kc nc := by
  have hab : a * b ≤ 200 * 200 := Nat.mul_le_mul ha hb
  have f1 : (nI a < nI l) = (a < l) := by rw [nI_ltI (by omega) (by omega)]
  have f2 : (nI a + nI b < nI l) = (a + b < l) := by rw [nI_add, nI_ltI (by omega) (by omega)]
  have f3 : (nI l ≤ nI a * nI b) = (l ≤ a * b) := by rw [pk_mul, nI_leI (by omega) (by omega)]
  unfold wL_areNodesSo_208
  rw [f1, f2, f3]
  refine ⟨fun z => absurd z (by decide), fun _ => ?_⟩
  rcases (show t = 1 ∨ t = 2 ∨ t = 3 ∨ t = 4 by omega) with rfl | rfl | rfl | rfl
  · exact ⟨fun _ => ⟨fun z => absurd (h13 (Or.inl rfl)) (by omega), fun _ => h⟩, fun z => absurd rfl z⟩
  · refine ⟨fun z => absurd z (by decide), fun _ => ⟨fun _ => ⟨fun z => absurd rfl z, fun _ => ⟨fun _ => h, fun z => ⟨fun z2 => ?_, fun _ => h⟩⟩⟩, fun z => absurd z (by decide)⟩⟩
    rcases h2 rfl with y | y
    · exact absurd y z
    · exact absurd y (by omega)
  · exact ⟨fun z => absurd z (by decide), fun _ => ⟨fun z => absurd rfl z, fun _ => ⟨fun z => absurd (h13 (Or.inr rfl)) (by omega), fun _ => h⟩⟩⟩
  · exact ⟨fun z => absurd z (by decide), fun _ => ⟨fun _ => ⟨fun _ => ⟨fun z => absurd (h4 rfl) (by omega), fun _ => h⟩, fun z => absurd z (by decide)⟩, fun z => absurd z (by decide)⟩⟩
theorem n_271 {g1 g2 kc nc m : Nat} (hw : Rw Z) (hm : m < Z.2.1.length) {K300 : Int32 → Int32 → QI → Nat → Nat → Prop} {post : Int32 → QI → Prop} (hB : Both I Z i) (hk : kc + 2 ≤ 400) (hn : nc + 12 ≤ 3000) (h : K300 (nI m) 1 I (kc + 1 + 1) (nc + 6 + 6)) : wL_areNodesSo_271 g1 g2 K300 post (nI m) I kc nc := by
  have w6 := (hw.2.1.2 m hm).1.2.2.2.2.2.2
  unfold wL_areNodesSo_271
  refine ⟨by omega, by omega, al_no (c_node_3 hw hm) hB ⟨fun z => ?_, fun _ => ⟨by omega, by omega, al_no (c_node_b hw hm (by decide) (by decide) (by decide) (by decide)) hB ⟨fun z => absurd rfl z, fun _ => h⟩⟩⟩⟩
  replace z : nI 6 < nI (nd Z.2.1 m).2.2.2.2.2.2 := z
  rw [nI_ltI (by omega) (by omega)] at z
  omega
theorem n_173 {g1 g2 kc nc m : Nat} (hw : Rw Z) (hi : i < 512) (hm : m < Z.2.1.length) (hp : psb Z.1 Z.2.1 m Z.2.2.1 = true) {K208 : Int32 → Int32 → Int32 → Int32 → Int32 → Int32 → QI → Nat → Nat → Prop} {post : Int32 → QI → Prop} {x6 x9 x10 y0 y1 y2 : Int32} (hB : Both I Z i) (hk : kc + 2 ≤ 400) (hn : nc + 12 ≤ 3000) (he : y2 = y1 + y0) (h : ∀ I2, Both I2 Z i → Fr9 I I2 → K208 (nI m) (rowsR Z m) x6 x9 x10 1 I2 (kc + 1 + 1) (nc + 6 + 6)) : wL_areNodesSo_173 g1 g2 K208 post (nI m) (rowsR Z m) x6 x9 x10 y0 y1 y2 I kc nc := by
  have hs : sameRR Z m m = 1 := by
    obtain ⟨⟨A, eA⟩, -⟩ := psb_t hp
    unfold sameRR
    rw [if_pos (by rw [hp]; rfl), same_rf eA eA rfl]
    rfl
  have h1 := c_same_t (i := i) hw hi hm hm
  rw [hs] at h1
  unfold wL_areNodesSo_173
  refine ⟨fun z => absurd he z, fun _ => ⟨by omega, by omega, al_of hw h1 hB (fun I2 hB2 hF2 => ⟨fun z => absurd rfl z, fun _ => ⟨by omega, by omega, ?_⟩⟩)⟩⟩
  exact al_of hw (c_past hw hi hm hp) hB2 (fun I3 hB3 hF3 => ⟨fun z => absurd rfl z, fun _ => h I3 hB3 (hF2.tr hF3)⟩)
theorem nodes_15 (hw : Rw Z) (hi : i < 512) {g1 g2 : Nat} (hg1 : 102 ≤ g1) (hg2 : 102 ≤ g2) (hg : g1 ≠ g2) {post : Int32 → QI → Prop} (hpost : ∀ I2, Both I2 Z i → post 1 I2) (hB : Both I Z i) : ∃ f, wL_areNodesSo_15 g1 g2 post f 1 0 I 2 48 := by
  have h24 := hw.2.1.1
  refine lp (fun f j (s : QI × Nat × Nat) => wL_areNodesSo_15 g1 g2 post f 1 (nI j) s.1 s.2.1 s.2.2) (fun j s => Both s.1 Z i ∧ (∀ n, n < j → s.1 g1 n = RV Z n ∧ s.1 g2 n = SV Z n) ∧ s.2.1 ≤ 2 + 9 * j ∧ s.2.2 ≤ 48 + 54 * j) 24 ?_ ?_ 0 (I, 2, 48) (Nat.zero_le _) ⟨hB, fun n hn => absurd hn (Nat.not_lt_zero n), Nat.le_refl _, Nat.le_refl _⟩
  · rintro f ⟨I1, k1, n1⟩ ⟨hB1, -, -, -⟩
    show wL_areNodesSo_15 g1 g2 post (f + 1) 1 (nI 24) I1 k1 n1
    rw [wL_areNodesSo_15]
    exact ⟨fun _ => ⟨Or.inr rfl, hpost I1 hB1⟩, fun z => absurd (show nI 24 ≤ nI 24 from Int32.le_refl _) z⟩
  · rintro f j ⟨I1, k1, n1⟩ hj ⟨hB1, hA1, hk1, hn1⟩ hs
    replace hB1 : Both I1 Z i := hB1
    replace hk1 : k1 ≤ 2 + 9 * j := hk1
    replace hn1 : n1 ≤ 48 + 54 * j := hn1
    replace hA1 : ∀ n, n < j → I1 g1 n = RV Z n ∧ I1 g2 n = SV Z n := hA1
    show wL_areNodesSo_15 g1 g2 post (f + 1) 1 (nI j) I1 k1 n1
    rw [wL_areNodesSo_15]
    have hge : ¬ (24 : Int32) ≤ nI j := by
      show ¬ nI 24 ≤ nI j
      rw [nI_leI (by omega) (by omega)]
      omega
    have hvj : vp_in (nI j) 24 := by simp (disch := omega) only [fa_lit, nI_ltI, nI_leI, nI_eq, nI_add, pk_mul, nI_clamp, vp_in_nI, l_uk, l_n1, l_n1e, l_n1e2, l_n1l, l_n1l2, l_n1l3, not_true_eq_false, not_false_eq_true, true_implies, false_implies, true_and, and_true, and_self, forall_eq, bI_t, bI_f, Bool.false_eq_true, or_true, true_or, or_false, false_or, s1_ltx, if_true, if_false, Nat.add_zero, Nat.zero_add,  d_leF, d_leT, d_ltF, d_ltT, d_eqF, d_eqT]
    have ecj : (nI j).toNatClampNeg = j := nI_clamp (by omega)
    refine ⟨fun z => absurd z hge, fun _ => ⟨fun z => absurd z (by decide), fun _ => ⟨by omega, by omega, ?_⟩⟩⟩
    refine al_of hw (RV_c hw hi hj) hB1 (fun I2 hB2 hF2 => ⟨by omega, by omega, ?_⟩)
    -- the end of a turn
    have turn : ∀ (I3 : QI) (k3 n3 : Nat), Both I3 Z i → (∀ n, n < j + 1 → I3 g1 n = RV Z n ∧ I3 g2 n = SV Z n) → k3 ≤ k1 + 9 → n3 ≤ n1 + 54 → wL_areNodesSo_301 g1 g2 (fun u v I z y => wL_areNodesSo_15 g1 g2 post f u v I z y) post 1 (nI j) I3 k3 n3 := by
      intro I3 k3 n3 a1 a2 a3 a4 v e
      rw [nI_s1] at e
      rw [e]
      exact hs (I3, k3, n3) ⟨a1, a2, by show k3 ≤ 2 + 9 * (j + 1); omega, by show n3 ≤ 48 + 54 * (j + 1); omega⟩
    have arr : ∀ (I6 I8 I9 : QI), I6 = q_u2 I2 g1 (nI j).toNatClampNeg (RV Z j) → Both I8 Z i → Fr9 I6 I8 → I9 = q_u2 I8 g2 (nI j).toNatClampNeg (SV Z j) → Both I9 Z i ∧ ∀ n, n < j + 1 → I9 g1 n = RV Z n ∧ I9 g2 n = SV Z n := by
      intro I6 I8 I9 e6 b8 f8 e9
      rw [ecj] at e6 e9
      refine ⟨by rw [e9]; exact b8.u hw hg2, fun n hn => ?_⟩
      have c1 : I9 g1 n = I6 g1 n := by rw [e9, nr_u2 hg, f8 g1 (by omega)]
      by_cases e : n = j
      · subst e
        exact ⟨by rw [c1, e6]; exact q_u2_s _ _ _ _, by rw [e9]; exact q_u2_s _ _ _ _⟩
      · have hnj : n < j := by omega
        obtain ⟨d1, d2⟩ := hA1 n hnj
        refine ⟨?_, ?_⟩
        · rw [c1, e6, q_u2_j _ _ _ e, hF2 g1 (by omega)]
          exact d1
        · rw [e9, q_u2_j _ _ _ e, f8 g2 (by omega), e6, nr_u2 (fun z => hg z.symm), hF2 g2 (by omega)]
          exact d2
    by_cases hjl : j < Z.2.1.length
    · have hW := hw.2.1.2 j hjl
      obtain ⟨ha, hb⟩ := hW.ab
      obtain ⟨⟨b1, b2, b3, b4, b5, b6, b7⟩, -⟩ := hW
      refine al_no (c_node_0 hw hjl) hB2 ⟨by omega, by omega, al_no (c_node_1 hw hjl) hB2 ⟨by omega, by omega, al_no (c_node_2 hw hjl) hB2 ⟨hvj, fun I6 e6 => ⟨by omega, by omega, ?_⟩⟩⟩⟩
      have hB6 : Both I6 Z i := by rw [e6]; exact hB2.u hw hg1
      refine al_of hw (SV_c hw hi hj) hB6 (fun I8 hB8 hF8 => ⟨hvj, fun I9 e9 => ?_⟩)
      obtain ⟨hB9, hA9⟩ := arr I6 I8 I9 e6 hB8 hF8 e9
      by_cases h0 : (nd Z.2.1 j).1 = 0
      · rw [h0]
        exact ⟨fun _ => turn I9 _ _ hB9 hA9 (by omega) (by omega), fun z => absurd (by decide) z⟩
      have hn0 : ¬ nI (nd Z.2.1 j).1 ≤ 0 := by
        show ¬ nI (nd Z.2.1 j).1 ≤ nI 0
        rw [nI_leI (by omega) (by omega)]
        omega
      refine ⟨fun z => absurd z hn0, fun _ => ?_⟩
      cases hps : psb Z.1 Z.2.1 j Z.2.2.1
      · have er : RV Z j = -99999 := by
          unfold RV rowsR
          rw [if_pos hjl, if_neg (by rw [hps]; decide)]
        rw [er]
        exact ⟨fun _ => turn I9 _ _ hB9 hA9 (by omega) (by omega), fun z => absurd (by decide) z⟩
      have er : RV Z j = rowsR Z j := if_pos hjl
      have er2 := RV_p hjl hps
      obtain ⟨fit1, fit2, fit3, fit4⟩ := nd_fit hw.2.1 hjl h0 hps
      have hpa := psb_a hw.2.1 hjl h0 hps
      have ha := ha h0
      obtain ⟨⟨L, eL⟩, hSt⟩ := psb_t hps
      obtain ⟨⟨LA, eLA⟩, hStA⟩ := psb_t hpa
      have hbu := hw.2.2.2.1
      have l200 : oL (EV Z.1 Z.2.1 j) ≤ 200 := by rw [eL]; exact psb_200 hw.2.1 hjl eL
      have a200 : oL (EV Z.1 Z.2.1 (nd Z.2.1 j).2.1) ≤ 200 := by rw [eLA]; exact psb_200 hw.2.1 (by omega) eLA
      have hr0 : ¬ RV Z j < 0 := by rw [er2]; exact nI_nn (by omega)
      have hf0 : ¬ nI (nd Z.2.1 j).2.1 < 0 := nI_nn (by omega)
      have hfj : ¬ nI j ≤ nI (nd Z.2.1 j).2.1 := by
        rw [nI_leI (by omega) (by omega)]
        omega
      have hvf : vp_in (nI (nd Z.2.1 j).2.1) 24 := by simp (disch := omega) only [fa_lit, nI_ltI, nI_leI, nI_eq, nI_add, pk_mul, nI_clamp, vp_in_nI, l_uk, l_n1, l_n1e, l_n1e2, l_n1l, l_n1l2, l_n1l3, not_true_eq_false, not_false_eq_true, true_implies, false_implies, true_and, and_true, and_self, forall_eq, bI_t, bI_f, Bool.false_eq_true, or_true, true_or, or_false, false_or, s1_ltx, if_true, if_false, Nat.add_zero, Nat.zero_add,  d_leF, d_leT, d_ltF, d_ltT, d_eqF, d_eqT]
      have ecf : (nI (nd Z.2.1 j).2.1).toNatClampNeg = (nd Z.2.1 j).2.1 := nI_clamp (by omega)
      have g1f : I9 g1 (nI (nd Z.2.1 j).2.1).toNatClampNeg = nI (oL (EV Z.1 Z.2.1 (nd Z.2.1 j).2.1)) := by rw [ecf, (hA9 _ (by omega)).1, RV_p (by omega) hpa]
      have g2f : I9 g2 (nI (nd Z.2.1 j).2.1).toNatClampNeg = nI (ST Z.1 Z.2.1 (nd Z.2.1 j).2.1) := by rw [ecf, (hA9 _ (by omega)).2, SV_p (by omega) hpa]
      have g2j : I9 g2 (nI j).toNatClampNeg = nI (ST Z.1 Z.2.1 j) := by rw [ecj, (hA9 _ (by omega)).2, SV_p hjl hps]
      refine ⟨fun z => absurd z hr0, fun _ => ⟨fun z => absurd z hf0, fun _ => ⟨fun z => absurd z hfj, fun _ => ?_⟩⟩⟩
      by_cases h2 : (nd Z.2.1 j).2.2.1 = 0
      · have es : sB (nd Z.2.1 j).2.2.1 = N1 := by rw [h2]; rfl
        rw [es]
        refine ⟨fun z => ?_, fun _ => ?_⟩
        · rw [l_n1l2 (by omega)] at z
          exact z.elim
        refine n_111 hvf g1f ?_
        refine n_124a N1_neg ?_
        refine n_143a hvj hvf (by decide) g2j g2f ?_
        rw [er]
        refine n_173 hw hi hjl hps hB9 (by omega) (by omega) ?_ (fun I3 hB3 hF3 => ?_)
        · rw [← er, er2]
          show _ = nI _ + nI _ + nI 0
          rw [nI_add, nI_add, fit1, if_pos h2]
        · rw [← er, er2]
          have hno2 : (nd Z.2.1 j).1 ≠ 2 := fun z => ((hw.2.1.2 j hjl).2.2.2.2.2.1 z).1 h2
          have hno4 : (nd Z.2.1 j).1 ≠ 4 := fun z => ((hw.2.1.2 j hjl).2.2.2.2.2.2.2 z).1 h2
          refine n_208 (b := 0) b1 h0 l200 a200 (by omega) fit2 (fun z => absurd z hno2) (fun z => absurd z hno4) ?_
          refine n_271 hw hjl hB3 (by omega) (by omega) ?_
          exact turn I3 _ _ hB3 (fun n hn => by rw [hF3 g1 (by omega), hF3 g2 (by omega)]; exact hA9 n hn) (by omega) (by omega)
      · have hb := hb h2
        obtain ⟨s, es⟩ : ∃ s, (nd Z.2.1 j).2.2.1 = s + 1 := ⟨(nd Z.2.1 j).2.2.1 - 1, by omega⟩
        have hpb := psb_b hw.2.1 hjl h2 hps
        rw [es, Nat.add_sub_cancel] at hpb hb fit3 fit4
        rw [if_neg h2, es, Nat.add_sub_cancel] at fit1
        obtain ⟨⟨LB, eLB⟩, hStB⟩ := psb_t hpb
        have b200 : oL (EV Z.1 Z.2.1 s) ≤ 200 := by rw [eLB]; exact psb_200 hw.2.1 (by omega) eLB
        rw [es, sB_s]
        have hsj : ¬ nI j ≤ nI s := by
          rw [nI_leI (by omega) (by omega)]
          omega
        have hs0 : ¬ nI s < 0 := nI_nn (by omega)
        have hvs : vp_in (nI s) 24 := by simp (disch := omega) only [fa_lit, nI_ltI, nI_leI, nI_eq, nI_add, pk_mul, nI_clamp, vp_in_nI, l_uk, l_n1, l_n1e, l_n1e2, l_n1l, l_n1l2, l_n1l3, not_true_eq_false, not_false_eq_true, true_implies, false_implies, true_and, and_true, and_self, forall_eq, bI_t, bI_f, Bool.false_eq_true, or_true, true_or, or_false, false_or, s1_ltx, if_true, if_false, Nat.add_zero, Nat.zero_add,  d_leF, d_leT, d_ltF, d_ltT, d_eqF, d_eqT]
        have ecs : (nI s).toNatClampNeg = s := nI_clamp (by omega)
        have g1s : I9 g1 (nI s).toNatClampNeg = nI (oL (EV Z.1 Z.2.1 s)) := by rw [ecs, (hA9 _ (by omega)).1, RV_p (by omega) hpb]
        have g2s : I9 g2 (nI s).toNatClampNeg = nI (ST Z.1 Z.2.1 s) := by rw [ecs, (hA9 _ (by omega)).2, SV_p (by omega) hpb]
        refine ⟨fun z => absurd z hsj, fun _ => ?_⟩
        refine n_111 hvf g1f ?_
        refine n_124b hs0 hvs g1s ?_
        refine n_143b hvj hvf (Int32.not_lt.1 hs0) hvs g2j g2f g2s ?_
        rw [er]
        refine n_173 hw hi hjl hps hB9 (by omega) (by omega) ?_ (fun I3 hB3 hF3 => ?_)
        · rw [← er, er2, nI_add, nI_add, fit1]
        · rw [← er, er2]
          refine n_208 b1 h0 l200 a200 b200 fit2 fit3 fit4 ?_
          refine n_271 hw hjl hB3 (by omega) (by omega) ?_
          exact turn I3 _ _ hB3 (fun n hn => by rw [hF3 g1 (by omega), hF3 g2 (by omega)]; exact hA9 n hn) (by omega) (by omega)
    · have hx : nI j < 0 ∨ nI Z.2.1.length ≤ nI j := Or.inr (by rw [nI_leI (by omega) (by omega)]; omega)
      refine al_no (c_node_f hx) hB2 ⟨by omega, by omega, al_no (c_node_f hx) hB2 ⟨by omega, by omega, al_no (c_node_f hx) hB2 ⟨hvj, fun I6 e6 => ⟨by omega, by omega, ?_⟩⟩⟩⟩
      have hB6 : Both I6 Z i := by rw [e6]; exact hB2.u hw hg1
      refine al_of hw (SV_c hw hi hj) hB6 (fun I8 hB8 hF8 => ⟨hvj, fun I9 e9 => ?_⟩)
      obtain ⟨hB9, hA9⟩ := arr I6 I8 I9 e6 hB8 hF8 e9
      exact ⟨fun _ => turn I9 _ _ hB9 hA9 (by omega) (by omega), fun z => absurd (by decide) z⟩
theorem c_nodes (hw : Rw Z) (hi : i < 512) {N : Nat} (h1 : 102 ≤ N) (h2 : N < 898990) {post : Int32 → QI → Prop} (hpost : ∀ I2, Both I2 Z i → post 1 I2) (hB : Both I Z i) : wL_areNodesSo N I post := by
  refine ⟨h2, fun I1 e1 => ?_⟩
  refine nodes_15 hw hi h1 (by omega) (by omega) hpost ?_
  rw [e1]
  exact (Both.aw hw (Both.aw hw hB h1) (by omega))
end NK
