/-! pure: the law's loop -/
section LW
variable {X : QX} {post : Int32 → Prop}
theorem c_cell {I : QI} {e : Nat} (hl : X.2.1.2.1 ≤ 260) (he : e < 90) {Q : Int32 → Prop} (h : ∀ v, Q v) : wL_cell X (nI e) I Q := by
  refine ⟨fun _ => h _, fun z => ⟨?_, h _⟩⟩
  replace z : ¬ nI X.2.1.2.1 ≤ nI e := z
  rw [nI_leI (by omega) (by omega)] at z
  simp (disch := omega) only [fa_lit, nI_ltI, nI_leI, nI_eq, nI_add, pk_mul, nI_clamp, vp_in_nI, l_uk, l_n1, l_n1e, l_n1e2, l_n1l, l_n1l2, l_n1l3, not_true_eq_false, not_false_eq_true, true_implies, false_implies, true_and, and_true, and_self, forall_eq, bI_t, bI_f, Bool.false_eq_true, or_true, true_or, or_false, false_or, s1_ltx, if_true, if_false, Nat.add_zero, Nat.zero_add,  d_leF, d_leT, d_ltF, d_ltT, d_eqF, d_eqT]
/-- what holds at the head of a turn -/
def Lw9 (X : QX) (e : Nat) (I : QI) (S : QS) (kc nc : Nat) : Prop := ∃ Z : Zs, Rw Z ∧ Both I Z e ∧ Sl X S ∧ S.2.1 ≤ 102 + 2 * e ∧ kc ≤ 102 + 700 * e ∧ nc ≤ 74228 + 5000 * e
theorem law_125 {K169 : Int32 → QI → QS → Nat → Nat → Prop} {x3 r : Int32} {Z : Zs} {i : Nat} (hw : Rw Z) (hi : i < 512) {I : QI} {S : QS} {kc nc : Nat} (hB : Both I Z i) (hk : kc + 10 ≤ 600086) (hn : nc + 60 ≤ 7301442)
    (h : ∀ (Z2 : Zs) (I2 : QI) (k2 n2 : Nat), Rw Z2 → Both I2 Z2 i → k2 ≤ kc + 4 → n2 ≤ nc + 24 → K169 x3 I2 S k2 n2) :
    wL_rewrite r I (fun r22 I23 => wL_law_125 X K169 post x3 r r22 I23 S (kc + 1) (nc + 6)) := by
  obtain ⟨T, P, bu, Kk, Vv⟩ := Z
  have hwP : Pw T P := hw.2.1
  have hd : Pd P := hw.2.2.1
  have h24 : P.length ≤ 24 := hwP.1
  have no : Sp9 i i (T, P, bu, Kk, Vv) (T, P, bu, Kk, Vv) (-99999) (wL_rewrite r) → wL_rewrite r I (fun r22 I23 => wL_law_125 X K169 post x3 r r22 I23 S (kc + 1) (nc + 6)) := fun hs => al_o hw hs hB (fun I2 hB2 => ⟨fun _ => h _ I2 _ _ hw hB2 (by omega) (by omega), fun z => absurd rfl z⟩)
  rcases ixc r P.length (by omega) with ⟨m, hm, rfl⟩ | hx
  · cases er : rwS (m + 1) P m [] with
    | none => exact no (c_rewrite_n hw hm er)
    | some q =>
      obtain ⟨rr, P2⟩ := q
      obtain ⟨hw2, hr2, hs⟩ := c_rewrite_t (i := i) hw hm er
      have hx2 : XP P P2 := rw_xp er
      have hm2 : m < P2.length := Nat.lt_of_lt_of_le hm hx2.le
      have l24 : P2.length ≤ 24 := hw2.2.1.1
      refine hs I _ hB.1 (fun I23 h23 hf23 => ?_)
      obtain ⟨b1, b2⟩ := hB.o hw h23 hf23
      refine ⟨fun z => absurd z (ne9 (by omega)), fun _ => ⟨by omega, by omega, ?_⟩⟩
      refine hs (q_sF I23) _ b2 (fun I37 h37 hf37 I32 e32 => ⟨fun z => absurd rfl z, fun _ => ⟨by omega, by omega, ?_⟩⟩)
      have hB32 : Both I32 (T, P2, bu, Kk, Vv) i := by
        rw [e32]
        exact Both.p hw2 b1 h37 hf37
      refine al_o hw2 (c_same_t hw2 hi hm2 hr2) hB32 (fun I34 hB34 => ⟨fun z => absurd z (keepR hwP hd hm er), fun _ => ⟨by omega, by omega, ?_⟩⟩)
      have ag : rwS (rr + 1) P2 rr [] = some (rr, P2) := rw_again hwP hd hm (fun e he => by cases he) er
      obtain ⟨-, -, hs3⟩ := c_rewrite_t (i := i) hw2 hr2 ag
      exact al_o hw2 hs3 hB34 (fun I36 hB36 => ⟨fun _ => h _ I36 _ _ hw2 hB36 (by omega) (by omega), fun z => absurd rfl z⟩)
  · exact no (c_rewrite_f hx)
set_option maxRecDepth 100000 in
theorem law_18 (hl : X.2.1.2.1 ≤ 260) (hpost : post 1) {I : QI} {S : QS} (h : Lw9 X 0 I S 102 74228) : ∃ f, wL_law_18 X post f 0 I S 102 74228 := by
  refine lp (fun f e (s : QI × QS × Nat × Nat) => wL_law_18 X post f (nI e) s.1 s.2.1 s.2.2.1 s.2.2.2) (fun e s => Lw9 X e s.1 s.2.1 s.2.2.1 s.2.2.2) 90 ?_ ?_ 0 (I, S, 102, 74228) (Nat.zero_le _) h
  · rintro f ⟨I1, S1, k1, n1⟩ -
    show wL_law_18 X post (f + 1) (nI 90) I1 S1 k1 n1
    rw [wL_law_18]
    exact ⟨fun _ => hpost, fun z => absurd (show nI 90 ≤ nI 90 from Int32.le_refl _) z⟩
  · rintro f e ⟨I1, S1, k1, n1⟩ he hL hs
    obtain ⟨Z, hw, hB, hSl, hN, hk, hn⟩ : Lw9 X e I1 S1 k1 n1 := hL
    have hi : e < 512 := by omega
    show wL_law_18 X post (f + 1) (nI e) I1 S1 k1 n1
    rw [wL_law_18]
    have hge : ¬ (90 : Int32) ≤ nI e := by
      show ¬ nI 90 ≤ nI e
      rw [nI_leI (by omega) (by omega)]
      omega
    refine ⟨fun z => absurd z hge, fun _ => c_cell hl he (fun v => ⟨by omega, by omega, ?_⟩)⟩
    obtain ⟨r, Z2, hw2, hE, hA⟩ := c_act (i := e) hw hi v
    have hi2 : e + 1 < 512 := by omega
    -- the end of a turn
    have t169 : ∀ (Z3 : Zs) (I3 : QI) (S3 : QS) (k3 n3 : Nat), Rw Z3 → Both I3 Z3 (e + 1) → Sl X S3 → S3.2.1 ≤ S1.2.1 + 2 → k3 ≤ k1 + 700 → n3 ≤ n1 + 5000 → wL_law_169 X (fun u I z y x => wL_law_18 X post f u I z y x) post (nI e) I3 S3 k3 n3 := by
      intro Z3 I3 S3 k3 n3 a1 a2 a3 a4 a5 a6 w9 e9
      rw [nI_s1] at e9
      rw [e9]
      have q1 : S3.2.1 ≤ 102 + 2 * (e + 1) := by omega
      have q2 : k3 ≤ 102 + 700 * (e + 1) := by omega
      have q3 : n3 ≤ 74228 + 5000 * (e + 1) := by omega
      exact hs (I3, S3, k3, n3) ⟨Z3, a1, a2, a3, q1, q2, q3⟩
    have t96 : ∀ (I3 : QI) (S3 : QS) (k3 n3 : Nat), Both I3 Z2 (e + 1) → Sl X S3 → S3.2.1 ≤ S1.2.1 + 2 → k3 ≤ k1 + 690 → n3 ≤ n1 + 4900 → wL_law_96 X (fun u24 u25 u26 I27 z28 z29 z30 => wL_law_125 X (fun u38 I39 z40 z41 z42 => wL_law_169 X (fun u I z y x => wL_law_18 X post f u I z y x) post u38 I39 z40 z41 z42) post u24 u25 u26 I27 z28 z29 z30) post (nI e) v I3 S3 k3 n3 := by
      intro I3 S3 k3 n3 b1 b2 b3 b4 b5
      refine ⟨by decide, fun _ => ⟨fun _ => t169 Z2 I3 S3 k3 n3 hw2 b1 b2 b3 (by omega) (by omega), fun z => absurd rfl z⟩, fun _ => ⟨by omega, by omega, ?_⟩⟩
      exact law_125 hw2 hi2 b1 (by omega) (by omega) (fun Z4 I4 k4 n4 c1 c2 c3 c4 => t169 Z4 I4 S3 k4 n4 c1 c2 b2 b3 (by omega) (by omega))
    have t57 : ∀ (I3 : QI) (k3 n3 : Nat), Both I3 Z2 (e + 1) → k3 ≤ k1 + 2 → n3 ≤ n1 + 12 → wL_law_57 X (fun u6 u7 I8 z9 z10 z11 => wL_law_78 X (fun u15 u16 I17 z18 z19 z20 => wL_law_96 X (fun u24 u25 u26 I27 z28 z29 z30 => wL_law_125 X (fun u38 I39 z40 z41 z42 => wL_law_169 X (fun u I z y x => wL_law_18 X post f u I z y x) post u38 I39 z40 z41 z42) post u24 u25 u26 I27 z28 z29 z30) post u15 u16 I17 z18 z19 z20) post u6 u7 I8 z9 z10 z11) post (nI e) v I3 S1 k3 n3 := by
      intro I3 k3 n3 b1 b4 b5
      have t78 : ∀ (I4 : QI) (k4 n4 : Nat), Both I4 Z2 (e + 1) → k4 ≤ k3 + 200 → n4 ≤ n3 + 1200 → wL_law_78 X (fun u15 u16 I17 z18 z19 z20 => wL_law_96 X (fun u24 u25 u26 I27 z28 z29 z30 => wL_law_125 X (fun u38 I39 z40 z41 z42 => wL_law_169 X (fun u I z y x => wL_law_18 X post f u I z y x) post u38 I39 z40 z41 z42) post u24 u25 u26 I27 z28 z29 z30) post u15 u16 I17 z18 z19 z20) post (nI e) v I4 S1 k4 n4 := by
        intro I4 k4 n4 d1 d2 d3
        refine ⟨fun _ => t96 I4 S1 k4 n4 d1 hSl (by omega) (by omega) (by omega), fun _ => ⟨by omega, by omega, ?_⟩⟩
        exact c_nodes hw2 hi2 hSl.2.2.1 (by omega) (fun I5 hB5 S5 hS5 hN5 => ⟨fun _ => t96 I5 S5 _ _ hB5 hS5 (by omega) (by omega) (by omega), fun z => absurd z (by decide)⟩) d1
      refine ⟨fun _ => t78 I3 k3 n3 b1 (by omega) (by omega), fun _ => ⟨by omega, by omega, ?_⟩⟩
      exact c_alike hw2 hi2 (fun I5 hB5 => ⟨fun z => absurd z (by decide), fun _ => t78 I5 _ _ hB5 (by omega) (by omega)⟩) b1
    refine hA I1 _ hB.1 (fun I3 h3 hf3 => ?_)
    obtain ⟨o1, o2⟩ := hB.o hw h3 hf3
    refine ⟨fun z => ?_, fun _ => ⟨by omega, by omega, ?_⟩⟩
    · have ez := hE z
      refine t57 I3 _ _ ⟨o1, ?_⟩ (by omega) (by omega)
      rw [ez]
      exact o2.up
    · refine hA (q_sF I3) _ o2 (fun I4 h4 hf4 I5 e5 => ⟨fun z => absurd rfl z, fun _ => ?_⟩)
      refine t57 I5 _ _ ?_ (by omega) (by omega)
      rw [e5]
      exact Both.p hw2 o1 h4 hf4
end LW
