/-! pure: the law's relation -/
abbrev Zs : Type := QT × List Nd × Nat × List Q4 × List Q4
def Rc (I : QI) (Z : Zs) (i : Nat) : Prop := Tc I Z.1 ∧ Pc I Z.2.1 ∧ (∃ ch, ch ≤ i + 1 ∧ Ca I Z.1 Z.2.1 ch) ∧ I 0 6 = nI Z.2.2.1 ∧ Kc I Z.2.2.2.1 ∧ Vc I Z.2.2.2.2
def Rm (I : QI) (Z : Zs) : Prop := Tm I Z.1 ∧ Pm I Z.2.1 ∧ I 51 13 = nI Z.2.2.1 ∧ Km I Z.2.2.2.1 ∧ Vm I Z.2.2.2.2
def Rw (Z : Zs) : Prop := Tw Z.1 ∧ Pw Z.1 Z.2.1 ∧ Pd Z.2.1 ∧ Z.2.2.1 ≤ 100000 ∧ Kw Z.1 Z.2.2.2.1 ∧ Vw Z.1 Z.2.2.2.2
def AV (S : QS) (I : QI) (u v : Nat) : Prop := (∃ C PS, AT S I (C, u, PS, v)) ∧ (∃ a, a ≤ 14 ∧ u = 2 ^ a) ∧ ∃ a, a ≤ 12 ∧ v = 2 ^ a
def LR (i : Nat) (Z : Zs) (S : QS) (I : QI) (k n : Nat) : Prop := i ≤ 512 ∧ Rw Z ∧ Rc I Z i ∧ Rm I Z ∧ ∃ u v, AV S I u v ∧ k ≤ 80 + i + 2 * u + 3 * v ∧ n ≤ 68345 + 6 * i + 256 * u + 384 * v
theorem AV.le {S : QS} {I : QI} {u v : Nat} (h : AV S I u v) : u ≤ 16384 ∧ v ≤ 4096 := by
  obtain ⟨-, ⟨a, ha, ea⟩, b, hb, eb⟩ := h
  rw [ea, eb]
  exact ⟨Nat.pow_le_pow_right (by decide) ha, Nat.pow_le_pow_right (by decide) hb⟩
theorem LR.kn {i k n : Nat} {Z : Zs} {S : QS} {I : QI} (h : LR i Z S I k n) : k + 1 ≤ 601024 ∧ n + 6 ≤ 7293034 := by
  obtain ⟨hi, -, -, -, u, v, hA, hk, hn⟩ := h
  obtain ⟨a, b⟩ := hA.le
  omega
theorem Tc.cg {I I2 : QI} {T : QT} (h : Tc I T) (e : ∀ b, b < 15 → I2 b = I b) : Tc I2 T := by
  refine ⟨by rw [e 1 (by omega)]; exact h.1, fun t ht => ?_⟩
  rw [e (3 + 3 * t) (by omega), e (4 + 3 * t) (by omega)]
  exact h.2 t ht
theorem Pc.cg {I I2 : QI} {P : List Nd} (h : Pc I P) (e : ∀ b, 15 ≤ b → b < 23 → I2 b = I b) : Pc I2 P := by
  refine ⟨by rw [e 15 (by omega) (by omega)]; exact h.1, fun n hn => ?_⟩
  rw [e 16 (by omega) (by omega), e 17 (by omega) (by omega), e 18 (by omega) (by omega), e 19 (by omega) (by omega), e 20 (by omega) (by omega), e 21 (by omega) (by omega), e 22 (by omega) (by omega)]
  exact h.2 n hn
theorem Kc.cg {I I2 : QI} {K : List Q4} (h : Kc I K) (e : ∀ b, 37 ≤ b → b < 42 → I2 b = I b) : Kc I2 K := by
  refine ⟨by rw [e 37 (by omega) (by omega)]; exact h.1, fun n hn => ?_⟩
  rw [e 38 (by omega) (by omega), e 39 (by omega) (by omega), e 40 (by omega) (by omega), e 41 (by omega) (by omega)]
  exact h.2 n hn
theorem Vc.cg {I I2 : QI} {V : List Q4} (h : Vc I V) (e : ∀ b, 46 ≤ b → b < 51 → I2 b = I b) : Vc I2 V := by
  refine ⟨by rw [e 46 (by omega) (by omega)]; exact h.1, fun n hn => ?_⟩
  rw [e 47 (by omega) (by omega), e 48 (by omega) (by omega), e 49 (by omega) (by omega), e 50 (by omega) (by omega)]
  exact h.2 n hn
theorem Ca.cg {I I2 : QI} {T : QT} {P : List Nd} {ch : Nat} (h : Ca I T P ch) (hw : Pw T P) (h1 : I2 1 2 = I 1 2) (e : ∀ b, 24 ≤ b → b ≤ 27 → I2 b = I b) : Ca I2 T P ch := by
  refine ⟨h1.trans h.1, fun m hm => ?_⟩
  rw [e 27 (by omega) (by omega)]
  obtain ⟨a, b⟩ := h.2 m hm
  refine ⟨a, fun z => ?_⟩
  obtain ⟨c, d⟩ := b z
  exact ⟨c, OKc_cg d (hw.2 m c).1.2.2.2.2.2.2 (fun j _ _ => by rw [e 24 (by omega) (by omega)]) (by rw [e 25 (by omega) (by omega)]) (by rw [e 26 (by omega) (by omega)])⟩
theorem Rc.cg {I I2 : QI} {Z : Zs} {i : Nat} (h : Rc I Z i) (hw : Rw Z) (e : ∀ b, b < 51 → I2 b = I b) : Rc I2 Z i := by
  obtain ⟨a, b, ⟨ch, c0, c⟩, d, f, g⟩ := h
  exact ⟨a.cg (fun b hb => e b (by omega)), b.cg (fun b _ hb => e b (by omega)), ⟨ch, c0, c.cg hw.2.1 (by rw [e 1 (by omega)]) (fun b _ hb => e b (by omega))⟩, by rw [e 0 (by omega)]; exact d, f.cg (fun b _ hb => e b (by omega)), g.cg (fun b _ hb => e b (by omega))⟩
theorem Rc.up {I : QI} {Z : Zs} {i : Nat} (h : Rc I Z i) : Rc I Z (i + 1) := by
  obtain ⟨a, b, ⟨ch, c0, c⟩, d⟩ := h
  exact ⟨a, b, ⟨ch, by omega, c⟩, d⟩
theorem Tm.cg {I I2 : QI} {T : QT} (h : Tm I T) (h1 : I2 51 1 = I 51 1) (e : ∀ b, 52 ≤ b → b ≤ 54 → I2 b = I b) : Tm I2 T := by
  refine ⟨h1.trans h.1, fun t ht => ?_⟩
  rw [e 52 (by omega) (by omega), e 53 (by omega) (by omega), e 54 (by omega) (by omega)]
  exact h.2 t ht
theorem Pm.cg {I I2 : QI} {P : List Nd} (h : Pm I P) (h1 : I2 51 5 = I 51 5) (e : ∀ b, 55 ≤ b → b ≤ 61 → I2 b = I b) : Pm I2 P := by
  refine ⟨h1.trans h.1, fun n hn => ?_⟩
  rw [e 55 (by omega) (by omega), e 56 (by omega) (by omega), e 57 (by omega) (by omega), e 58 (by omega) (by omega), e 59 (by omega) (by omega), e 60 (by omega) (by omega), e 61 (by omega) (by omega)]
  exact h.2 n hn
theorem Km.cg {I I2 : QI} {K : List Q4} (h : Km I K) (h1 : I2 51 14 = I 51 14) (e : I2 62 = I 62) : Km I2 K := by
  refine ⟨h1.trans h.1, fun n hn => ?_⟩
  rw [e]
  exact h.2 n hn
theorem Vm.cg {I I2 : QI} {V : List Q4} (h : Vm I V) (h1 : I2 51 16 = I 51 16) (e : I2 63 = I 63) : Vm I2 V := by
  refine ⟨h1.trans h.1, fun n hn => ?_⟩
  rw [e]
  exact h.2 n hn
/-- what a call of the reference leaves that changes none of its state -/
def Fm (I I2 : QI) : Prop := (∀ b, (52 ≤ b ∧ b ≤ 63) ∨ (70 ≤ b ∧ b < 75) ∨ 80 ≤ b → I2 b = I b) ∧ I2 51 1 = I 51 1 ∧ I2 51 5 = I 51 5 ∧ I2 51 13 = I 51 13 ∧ I2 51 14 = I 51 14 ∧ I2 51 16 = I 51 16 ∧ I2 51 24 = I 51 24 ∧ I2 51 27 = I 51 27
theorem Rm.cg {I I2 : QI} {Z : Zs} (h : Rm I Z) (e : Fm I I2) : Rm I2 Z := by
  obtain ⟨a, b, c, d, f⟩ := h
  obtain ⟨e0, e1, e5, e13, e14, e16, -⟩ := e
  exact ⟨a.cg e1 (fun b _ _ => e0 b (by omega)), b.cg e5 (fun b _ _ => e0 b (by omega)), e13.trans c, d.cg e14 (e0 62 (by omega)), f.cg e16 (e0 63 (by omega))⟩
theorem AT.cg {S : QS} {I I2 : QI} {R : RS} (h : AT S I R) (h24 : I2 51 24 = I 51 24) (h27 : I2 51 27 = I 51 27) (hb : ∀ b, (70 ≤ b ∧ b < 75) ∨ 80 ≤ b → I2 b = I b) : AT S I2 R := by
  obtain ⟨C, u, PS, v⟩ := R
  obtain ⟨p1, p2, q1, q2, q3, hg, hL, hP, hO, lC, lP, u1, v1, u9, v9, S80, SN⟩ := h.un
  have hg0 := hg
  obtain ⟨-, -, ⟨⟨a1, -⟩, ⟨a2, -⟩, ⟨a3, -⟩, ⟨a4, -⟩, ⟨a5, -⟩⟩, ⟨g1, g2, g3, g4, g5⟩, -⟩ := hg
  simp only at a1 a2 a3 a4 a5 g1 g2 g3 g4 g5
  exact AT.mk hg0 (Lt_fr hL h24 (hb p1 (by omega)) (hb p2 (by omega))) (Pt_fr hP h27 (hb q1 (by omega)) (hb q2 (by omega)) (hb q3 (by omega))) hO lC lP u1 v1 u9 v9 S80 SN
theorem AV.cg {S : QS} {I I2 : QI} {u v : Nat} (h : AV S I u v) (h24 : I2 51 24 = I 51 24) (h27 : I2 51 27 = I 51 27) (hb : ∀ b, (70 ≤ b ∧ b < 75) ∨ 80 ≤ b → I2 b = I b) : AV S I2 u v := by
  obtain ⟨⟨C, PS, a⟩, b⟩ := h
  exact ⟨⟨C, PS, a.cg h24 h27 hb⟩, b⟩
/-- the class has been called: its side is at a next state, the reference's stands -/
def Lc (i : Nat) (Z Z2 : Zs) (S : QS) (I : QI) (k n : Nat) : Prop := i < 512 ∧ Rw Z ∧ Rw Z2 ∧ Rc I Z2 (i + 1) ∧ Rm I Z ∧ ∃ u v, AV S I u v ∧ k ≤ 80 + i + 2 * u + 3 * v ∧ n ≤ 68345 + 6 * i + 256 * u + 384 * v
theorem LR.lc {i k n : Nat} {Z Z2 : Zs} {S : QS} {I I2 : QI} (h : LR i Z S I k n) (hi : i < 512) (hw : Rw Z2) (hc : Rc I2 Z2 (i + 1)) (e : ∀ b, 51 ≤ b → I2 b = I b) : Lc i Z Z2 S I2 k n := by
  obtain ⟨-, a, b, c, u, v, d, f⟩ := h
  exact ⟨hi, a, hw, hc, c.cg ⟨fun b hb => e b (by omega), by rw [e 51 (by omega)], by rw [e 51 (by omega)], by rw [e 51 (by omega)], by rw [e 51 (by omega)], by rw [e 51 (by omega)], by rw [e 51 (by omega)], by rw [e 51 (by omega)]⟩, u, v, d.cg (by rw [e 51 (by omega)]) (by rw [e 51 (by omega)]) (fun b hb => e b (by omega)), f⟩
/-- the answers agree -/
def fin9 (K : Int32 → QS → QI → QJ → Nat → Nat → Prop) (post : Int32 → Prop) (x4 : Int32) (S : QS) (I4 : QI) (J3 : QJ) (k n : Nat) (r1 r5 : Int32) : Prop := wX8_thrown I4 (fun r6 => ((r6 = r1 → ((¬ r1 = 0 → (∀ v7 : Int32, v7 = (x4 + 6) → (K v7 S I4 J3 k n))) ∧ (r1 = 0 → (vp_in 0 1 ∧ (((lg_cmp (J3 79 (0 : Int32).toNatClampNeg) ((r5).toInt64)) = 0 → (∀ v8 : Int32, v8 = (x4 + 6) → (K v8 S I4 J3 k n))) ∧ (¬ (lg_cmp (J3 79 (0 : Int32).toNatClampNeg) ((r5).toInt64)) = 0 → post 0)))))) ∧ (¬ r6 = r1 → post 0)))
theorem m_fin9 {K : Int32 → QS → QI → QJ → Nat → Nat → Prop} {post : Int32 → Prop} {i : Nat} {S : QS} {I4 : QI} {J3 : QJ} {k n : Nat} {r1 r5 : Int32} (hi : i < 512) (h0 : I4 51 0 = r1) (h1 : r1 = 0 → J3 79 0 = r5.toInt64) (h : K (nI (6 * (i + 1))) S I4 J3 k n) : fin9 K post (nI (6 * i)) S I4 J3 k n r1 r5 := by
  have e6 : nI (6 * i) + 6 = nI (6 * (i + 1)) := by
    show nI (6 * i) + nI 6 = _
    rw [nI_add]
    rfl
  have go : ∀ v : Int32, v = nI (6 * i) + 6 → K v S I4 J3 k n := fun v e => by rw [e, e6]; exact h
  exact ⟨fun _ => ⟨fun _ => go, fun z => ⟨(show vp_in (nI 0) 1 by simp (disch := omega) only [fa_lit, nI_ltI, nI_leI, nI_eq, nI_add, pk_mul, nI_clamp, vp_in_nI, l_uk, l_n1, l_n1e, l_n1e2, l_n1l, l_n1l2, l_n1l3, not_true_eq_false, not_false_eq_true, true_implies, false_implies, true_and, and_true, and_self, forall_eq, bI_t, bI_f, Bool.false_eq_true, or_true, true_or, or_false, false_or, s1_ltx, if_true, if_false, Nat.add_zero, Nat.zero_add,  d_leF, d_leT, d_ltF, d_ltT, d_eqF, d_eqT]), fun _ => go, fun c => absurd (by rw [show J3 79 (0 : Int32).toNatClampNeg = J3 79 0 from rfl, h1 z]; exact (lg_cmp_eq _ _).2 rfl) c⟩⟩, fun z => absurd h0 z⟩
/-- after the reference's call -/
theorem Lc.lr {i k n : Nat} {Z Z2 : Zs} {S : QS} {I I2 : QI} (h : Lc i Z Z2 S I k n) (e : ∀ b, b < 51 → I2 b = I b) (hm : Rm I2 Z2) (h24 : I2 51 24 = I 51 24) (h27 : I2 51 27 = I 51 27) (hb : ∀ b, (70 ≤ b ∧ b < 75) ∨ 80 ≤ b → I2 b = I b) : LR (i + 1) Z2 S I2 (k + 1) (n + 6) := by
  obtain ⟨hi, -, w, c, -, u, v, d, hk, hn⟩ := h
  exact ⟨hi, w, c.cg w e, hm, u, v, d.cg h24 h27 hb, by omega, by omega⟩
theorem Lc.fm {i k n : Nat} {Z : Zs} {S : QS} {I I2 : QI} (h : Lc i Z Z S I k n) (e : ∀ b, b < 51 → I2 b = I b) (hF : Fm I I2) : LR (i + 1) Z S I2 (k + 1) (n + 6) := h.lr e (h.2.2.2.2.1.cg hF) hF.2.2.2.2.2.2.1 hF.2.2.2.2.2.2.2 (fun b hb => hF.1 b (by omega))
/-- what a call of the law asks for -/
def Kw9 (K : Int32 → QS → QI → QJ → Nat → Nat → Prop) (i : Nat) : Prop := ∀ Z S I J k n, LR (i + 1) Z S I k n → K (nI (6 * (i + 1))) S I J k n
theorem gw_0 {I : QI} {post : Int32 → QI → Prop} (h : post 1 (q_u2 I 51 0 0)) : wX8_goesWell 0 I post := m_goesWell_0 h
theorem f_0 (I : QI) (x : Int32) : (∀ b, b < 51 → q_u2 I 51 0 x b = I b) ∧ Fm I (q_u2 I 51 0 x) := ⟨fun b hb => nr_u2 (by omega), fun b hb => nr_u2 (by omega), q_u2_j _ _ _ (by omega), q_u2_j _ _ _ (by omega), q_u2_j _ _ _ (by omega), q_u2_j _ _ _ (by omega), q_u2_j _ _ _ (by omega), q_u2_j _ _ _ (by omega), q_u2_j _ _ _ (by omega)⟩
/-- a call that both refuse -/
theorem m_no {K : Int32 → QS → QI → QJ → Nat → Nat → Prop} {post : Int32 → Prop} {i k n : Nat} {Z : Zs} {S : QS} {I : QI} {J : QJ} {x r5 : Int32} (hK : Kw9 K i) (h : Lc i Z Z S I k n) (hx : ¬ x = 0) : fin9 K post (nI (6 * i)) S (q_u2 I 51 0 x) J (k + 1) (n + 6) x r5 := m_fin9 h.1 (q_u2_s _ _ _ _) (fun z => absurd z hx) (hK Z S _ J _ _ (h.fm (f_0 I x).1 (f_0 I x).2))
