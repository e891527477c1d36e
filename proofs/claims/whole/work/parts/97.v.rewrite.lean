/-! pure: the reference's call of rewriting -/
section RW
variable {T : QT} {P : List Nd} {DN : List (Nat × List Nat)} {DL : List (List Nat)}
def FR0 (I I2 : QI) : Prop := (∀ b, b < 51 ∨ (52 ≤ b ∧ b ≤ 54) ∨ (62 ≤ b ∧ b ≤ 69) ∨ (76 ≤ b ∧ b ≤ 79) → I2 b = I b) ∧ ∀ j, j ≠ 0 → j ≠ 5 → j ≠ 24 → j ≠ 27 → j ≠ 32 → I2 51 j = I 51 j
theorem AT.re {S : QS} {I I2 : QI} {C : List (List Nat)} {u v : Nat} {PS : List Pr} (h : AT S I (C, u, PS, v)) (h24 : I2 51 24 = nI 0) (h27 : I2 51 27 = nI 0) : AT S I2 ([], u, [], v) := by
  obtain ⟨p1, p2, q1, q2, q3, hg, hL, hP, hO, lC, lP, u1, v1, u9, v9, S80, SN⟩ := h.un
  exact AT.mk hg ⟨h24, fun k hk => absurd hk (Nat.not_lt_zero k)⟩ ⟨h27, fun k hk => absurd hk (Nat.not_lt_zero k)⟩ ⟨fun k hk => absurd hk (Nat.not_lt_zero k), fun i j _ hj => absurd hj (Nat.not_lt_zero j)⟩ (Nat.zero_le _) (Nat.zero_le _) u1 v1 u9 v9 S80 SN
theorem AT.sm {S : QS} {I I2 : QI} {R : RS} (h : AT S I R) (h24 : I2 51 24 = I 51 24) (h27 : I2 51 27 = I 51 27) (hb : ∀ b, b ≠ 51 → I2 b = I b) : AT S I2 R := by
  obtain ⟨C, u, PS, v⟩ := R
  obtain ⟨p1, p2, q1, q2, q3, hg, hL, hP, hO, lC, lP, u1, v1, u9, v9, S80, SN⟩ := h.un
  have hg0 := hg
  obtain ⟨-, -, ⟨⟨a1, -⟩, ⟨a2, -⟩, ⟨a3, -⟩, ⟨a4, -⟩, ⟨a5, -⟩⟩, -⟩ := hg
  simp only at a1 a2 a3 a4 a5
  exact AT.mk hg0 (Lt_fr hL h24 (hb p1 (by omega)) (hb p2 (by omega))) (Pt_fr hP h27 (hb q1 (by omega)) (hb q2 (by omega)) (hb q3 (by omega))) hO lC lP u1 v1 u9 v9 S80 SN
theorem m_goesWell_0 {I : QI} {post : Int32 → QI → Prop} (h : post 1 (q_u2 I 51 0 0)) : wX8_goesWell 0 I post := fun I1 e => by
  subst e
  exact ⟨fun z => absurd rfl z, fun _ => h⟩
theorem m_goesWell_n {x : Int32} {I : QI} {post : Int32 → QI → Prop} (hx : ¬ x = 0) (h : post 0 (q_u2 I 51 0 x)) : wX8_goesWell x I post := fun I1 e => by
  subst e
  exact ⟨fun _ => h, fun z => absurd z hx⟩
/-- what a rewriting answers, with the plan that stands then -/
def rwo (P : List Nd) (n : Nat) : Int32 × Int32 × List Nd := match rwS (n + 1) P n [] with
  | some r => (nI r.1, nI 0, r.2)
  | none => (nI 0, nI 2, P)
theorem m_rewrite_f {x : Int32} {S : QS} {I : QI} {c s : Nat} {post : Int32 → QS → QI → Prop} (hP : Pm I P) (hw : Pw T P) (hx : x < 0 ∨ nI P.length ≤ x) (h : post 0 S (q_u2 I 51 0 1)) : wX8_rewrite x S I c s post := by
  unfold wX8_rewrite
  refine m_isNode_f hP hw hx ⟨fun _ => ?_, fun z => absurd rfl z⟩
  exact m_goesWell_n (by decide) ⟨fun z => absurd rfl z, fun _ => h⟩
set_option maxHeartbeats 1000000 in
theorem m_rewrite {n u v : Nat} (hwT : Tw T) (hw : Pw T P) (hd : Pd P) (hC : Cl P DN DL) (hn : n < P.length) (hm : (n, []) ∈ DN) (hu : ∃ i, i ≤ 14 ∧ u = 2 ^ i) (hv : ∃ i, i ≤ 12 ∧ v = 2 ^ i) : ∃ u2 v2, u ≤ u2 ∧ v ≤ v2 ∧ (∃ i, i ≤ 14 ∧ u2 = 2 ^ i) ∧ (∃ i, i ≤ 12 ∧ v2 = 2 ^ i) ∧ ∀ (S : QS) (I : QI) (c s : Nat) (post : Int32 → QS → QI → Prop) (C : List (List Nat)) (PS : List Pr), Tm I T → AT S I (C, u, PS, v) → Pm I P → 2 * (u2 - u) + 3 * (v2 - v) ≤ c → 256 * (u2 - u) + 384 * (v2 - v) ≤ s → (∀ C2 PS2 S2 I2, AT S2 I2 (C2, u2, PS2, v2) → FR0 I I2 → Pm I2 (rwo P n).2.2 → I2 51 0 = (rwo P n).2.1 → post (rwo P n).1 S2 I2) → wX8_rewrite (nI n) S I c s post := by
  have h24 := hw.1
  have hK : RK P DN DL (([], u, [], v) : RS) := ⟨⟨fun k hk => absurd hk (Nat.not_lt_zero k), fun i j _ hj => absurd hj (Nat.not_lt_zero j)⟩, (fun X hX => by cases hX), hu, hv, fun k hk => absurd hk (Nat.not_lt_zero k), fun i j _ hj => absurd hj (Nat.not_lt_zero j)⟩
  have hG : GX T P (([], u, [], v) : RS) (some P) := fun P2 e => by
    cases e
    exact ⟨XP.rf _, hw, hd, fun k hk => absurd hk (Nat.not_lt_zero k)⟩
  obtain ⟨R2, K2, G2, E2, S2⟩ := m_finished hwT hw hC 26 n 0 [] ([], u, [], v) (some P) (by omega) hn hK hG (Nat.zero_le _) rfl (fun e he => by cases he) (by show 0 + n ≤ 23; omega) hm
  obtain ⟨C2, u2, PS2, v2⟩ := R2
  refine ⟨u2, v2, E2.2.1, E2.2.2.1, K2.2.2.1, K2.2.2.2.1, fun S I c s post C PS hT hA hP hc hs h => ?_⟩
  unfold wX8_rewrite
  refine m_isNode hP hw hn ⟨fun z => absurd z (by decide), fun _ => ?_⟩
  refine m_goesWell_0 ⟨fun _ => ?_, fun z => absurd z (by decide)⟩
  intro I23 e23 I24 e24 v25 e25 I26 e26
  have b51 : ∀ b, b ≠ 51 → I26 b = I b := fun b hb => by rw [e26, e24, e23, nr_u2 hb, nr_u2 hb, nr_u2 hb, nr_u2 hb]
  have j51 : ∀ j, j ≠ 0 → j ≠ 24 → j ≠ 27 → j ≠ 32 → I26 51 j = I 51 j := fun j j0 j1 j2 j3 => by rw [e26, e24, e23, q_u2_j _ _ _ j3, q_u2_j _ _ _ j2, q_u2_j _ _ _ j1, q_u2_j _ _ _ j0]
  have k24 : I26 51 24 = nI 0 := by rw [e26, e24, e23, q_u2_j _ _ _ (by omega), q_u2_j _ _ _ (by omega), q_u2_s]; rfl
  have k27 : I26 51 27 = nI 0 := by rw [e26, e24, q_u2_j _ _ _ (by omega), q_u2_s]; rfl
  have k32 : I26 51 32 = nI 0 := by rw [e26, q_u2_s]; rfl
  have k0 : I26 51 0 = nI 0 := by rw [e26, e24, e23, q_u2_j _ _ _ (by omega), q_u2_j _ _ _ (by omega), q_u2_j _ _ _ (by omega), q_u2_s]; rfl
  have e25' : v25 = nI P.length := by rw [e25, e24, e23, q_u2_j _ _ _ (by omega), q_u2_j _ _ _ (by omega), q_u2_j _ _ _ (by omega)]; exact hP.1
  have hF0 : FR0 I I26 := ⟨fun b hb => b51 b (by omega), fun j j0 _ j1 j2 j3 => j51 j j0 j1 j2 j3⟩
  have hT2 : Tm I26 T := by
    refine ⟨by rw [j51 1 (by omega) (by omega) (by omega) (by omega)]; exact hT.1, fun u hu => ?_⟩
    rw [b51 52 (by omega), b51 53 (by omega), b51 54 (by omega)]
    exact hT.2 u hu
  have hP2 : Pm I26 P := by
    refine ⟨by rw [j51 5 (by omega) (by omega) (by omega) (by omega)]; exact hP.1, fun k hk => ?_⟩
    rw [b51 55 (by omega), b51 56 (by omega), b51 57 (by omega), b51 58 (by omega), b51 59 (by omega), b51 60 (by omega), b51 61 (by omega)]
    exact hP.2 k hk
  have hA2 := hA.re k24 k27
  refine ⟨c, s, by omega, by omega, S2 S I26 c s _ ⟨hT2, hA2, hP2, k32⟩ hc hs (fun S28 I29 hA29 hF29 => ?_)⟩
  have hrw : rx (some P) n [] = rwS (n + 1) P n [] := rfl
  cases er : rwS (n + 1) P n [] with
  | some r =>
    rw [hrw, er] at hA29 ⊢
    have eo : rwo P n = (nI r.1, nI 0, r.2) := by unfold rwo; rw [er]
    rw [eo] at h
    obtain ⟨hT9, hAT9, hP9, h32⟩ := hA29
    refine ⟨fun _ => ?_, fun z => absurd h32 z⟩
    intro I30 e30
    have s30 : ∀ j, I30 51 j = I29 51 j := fun j => by
      rw [e30]
      by_cases ej : j = 5
      · subst ej; exact q_u2_s _ _ _ _
      · exact q_u2_j _ _ _ ej
    have b30 : ∀ b, b ≠ 51 → I30 b = I29 b := fun b hb => by rw [e30, nr_u2 hb]
    refine ⟨fun _ => ?_, fun z => absurd ((s30 32).trans h32) z⟩
    refine m_goesWell_0 ⟨fun z => absurd z (by decide), fun _ => ?_⟩
    have x51 : ∀ j, j ≠ 0 → q_u2 I30 51 0 0 51 j = I29 51 j := fun j hj => (q_u2_j _ _ _ hj).trans (s30 j)
    have xb : ∀ b, b ≠ 51 → q_u2 I30 51 0 0 b = I29 b := fun b hb => (nr_u2 hb).trans (b30 b hb)
    refine h C2 PS2 S28 (q_u2 I30 51 0 0) (AT.sm hAT9 (x51 24 (by omega)) (x51 27 (by omega)) xb) ⟨fun b hb => ?_, fun j j0 j1 j2 j3 j4 => ?_⟩ ?_ (q_u2_s _ _ _ _)
    · rw [xb b (by omega), hF29.1 b hb]
      exact b51 b (by omega)
    · rw [x51 j j0, hF29.2 j j1 j2 j3 j4]
      exact j51 j j0 j2 j3 j4
    · refine ⟨by rw [x51 5 (by omega)]; exact hP9.1, fun k hk => ?_⟩
      rw [xb 55 (by omega), xb 56 (by omega), xb 57 (by omega), xb 58 (by omega), xb 59 (by omega), xb 60 (by omega), xb 61 (by omega)]
      exact hP9.2 k hk
  | none =>
    rw [hrw, er] at hA29 ⊢
    have eo : rwo P n = (nI 0, nI 2, P) := by unfold rwo; rw [er]
    rw [eo] at h
    obtain ⟨hT9, hAT9, ⟨P9, hx9, hw9, hP9⟩, h32⟩ := hA29
    refine ⟨fun z => absurd (h32.symm.trans z) (by decide), fun _ => ?_⟩
    intro I35 e35
    have s35 : ∀ j, j ≠ 5 → I35 51 j = I29 51 j := fun j hj => by rw [e35]; exact q_u2_j _ _ _ hj
    have b35 : ∀ b, b ≠ 51 → I35 b = I29 b := fun b hb => by rw [e35, nr_u2 hb]
    refine ⟨fun z => absurd (((s35 32 (by omega)).trans h32).symm.trans z) (by decide), fun _ => ?_⟩
    refine m_goesWell_n (by decide) ⟨fun _ => ?_, fun z => absurd rfl z⟩
    have x51 : ∀ j, j ≠ 0 → j ≠ 5 → q_u2 I35 51 0 2 51 j = I29 51 j := fun j hj h5 => (q_u2_j _ _ _ hj).trans (s35 j h5)
    have xb : ∀ b, b ≠ 51 → q_u2 I35 51 0 2 b = I29 b := fun b hb => (nr_u2 hb).trans (b35 b hb)
    refine h C2 PS2 S28 (q_u2 I35 51 0 2) (AT.sm hAT9 (x51 24 (by omega) (by omega)) (x51 27 (by omega) (by omega)) xb) ⟨fun b hb => ?_, fun j j0 j1 j2 j3 j4 => ?_⟩ ?_ (q_u2_s _ _ _ _)
    · rw [xb b (by omega), hF29.1 b hb]
      exact b51 b (by omega)
    · rw [x51 j j0 j1, hF29.2 j j1 j2 j3 j4]
      exact j51 j j0 j2 j3 j4
    · refine ⟨?_, fun k hk => ?_⟩
      · rw [q_u2_j _ _ _ (by omega), e35, q_u2_s]
        exact e25'
      · have hle := hx9.le
        replace hk : k < P.length := hk
        rw [xb 55 (by omega), xb 56 (by omega), xb 57 (by omega), xb 58 (by omega), xb 59 (by omega), xb 60 (by omega), xb 61 (by omega), ← hx9.g hk]
        exact hP9.2 k (by omega)
end RW
