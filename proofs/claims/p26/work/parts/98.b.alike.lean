/-! pure: both objects answer alike -/
def Both (I : QI) (Z : Zs) (i : Nat) : Prop := Rc I Z i ∧ Rc (q_sF I) Z i
section AK
variable {Z : Zs} {i : Nat} {I : QI} {r : Int32} {w : WT}
theorem Both.o {Z2 : Zs} {j : Nat} (hw : Rw Z) (hB : Both I Z i) {I2 : QI} (h2 : Rc I2 Z2 j) (hf : Fr9 I I2) : Rc I2 Z2 j ∧ Rc (q_sF I2) Z i := ⟨h2, hB.2.cg hw (fun b hb => by
  show I2 (q_s b) = I (q_s b)
  rw [q_s_lo hb]
  exact hf _ (by omega))⟩
theorem Both.p {Z2 : Zs} {j : Nat} (hw : Rw Z) (hB : Rc I Z i) {I4 : QI} (h4 : Rc I4 Z2 j) (hf : Fr9 (q_sF I) I4) : Rc (q_sF I4) Z i ∧ Rc (q_sF (q_sF I4)) Z2 j := by
  refine ⟨hB.cg hw (fun b hb => ?_), by rw [q_sF_sF]; exact h4⟩
  show I4 (q_s b) = I b
  rw [q_s_lo hb, hf _ (by omega)]
  show I (q_s (b + 51)) = I b
  rw [q_s_md hb]
theorem al_o (hw : Rw Z) (h : Sp9 i i Z Z r w) (hB : Both I Z i) {Q : Int32 → QI → Prop} (k : ∀ I2, Both I2 Z i → Q r I2) : w I Q := h I Q hB.1 (fun I2 h2 hf => k I2 (hB.o hw h2 hf))
theorem al_p (hw : Rw Z) (h : Sp9 i i Z Z r w) (hB : Both I Z i) {Q : Int32 → QI → Prop} (k : ∀ I2, Both I2 Z i → Q r I2) : w (q_sF I) (fun r I4 => ∀ I5 : QI, I5 = q_sF I4 → Q r I5) := h (q_sF I) _ hB.2 (fun I4 h4 hf I5 e5 => by
  have h9 := Both.p hw hB.1 h4 hf
  rw [← e5] at h9
  exact k I5 h9)
theorem al_no {w : QI → (Int32 → Prop) → Prop} (h : Sp9 i i Z Z r (fun I post => w I (fun r => post r I))) (hB : Both I Z i) {Q : Int32 → Prop} (k : Q r) : w I Q := h I (fun r _ => Q r) hB.1 (fun _ _ _ => k)
theorem al_np {w : QI → (Int32 → Prop) → Prop} (h : Sp9 i i Z Z r (fun I post => w I (fun r => post r I))) (hB : Both I Z i) {Q : Int32 → Prop} (k : Q r) : w (q_sF I) Q := h (q_sF I) (fun r _ => Q r) hB.2 (fun _ _ _ => k)
theorem nI_s1 (j : Nat) : nI j + 1 = nI (j + 1) := by
  show nI j + nI 1 = _
  rw [nI_add]
theorem alike_97 (hw : Rw Z) (hi : i < 512) {a2 : Int32} {post : Int32 → QI → Prop} (hpost : ∀ I2, Both I2 Z i → post 1 I2) {kc nc : Nat} (hB : Both I Z i) (hk : kc ≤ 8) (hn : nc ≤ 48) : ∃ f, wL_areAlike_97 a2 post f 1 0 I kc nc := by
  refine lp (fun f j (s : QI × Nat × Nat) => wL_areAlike_97 a2 post f 1 (nI j) s.1 s.2.1 s.2.2) (fun j s => Both s.1 Z i ∧ s.2.1 ≤ 8 + 8 * j ∧ s.2.2 ≤ 48 + 48 * j) 10 ?_ ?_ 0 (I, kc, nc) (Nat.zero_le _) ⟨hB, hk, hn⟩
  · rintro f ⟨I2, k2, n2⟩ ⟨hB2, -, -⟩
    show wL_areAlike_97 a2 post (f + 1) 1 (nI 10) I2 k2 n2
    rw [wL_areAlike_97]
    exact ⟨fun _ => ⟨Or.inr rfl, hpost I2 hB2⟩, fun z => absurd (show nI 10 ≤ nI 10 from Int32.le_refl _) z⟩
  · rintro f j ⟨I2, k2, n2⟩ hj ⟨hB2, hk2, hn2⟩ hs
    replace hk2 : k2 ≤ 8 + 8 * j := hk2
    replace hn2 : n2 ≤ 48 + 48 * j := hn2
    show wL_areAlike_97 a2 post (f + 1) 1 (nI j) I2 k2 n2
    rw [wL_areAlike_97]
    have hge : ¬ (10 : Int32) ≤ nI j := by
      show ¬ nI 10 ≤ nI j
      rw [nI_leI (by omega) (by omega)]
      omega
    obtain ⟨r1, h1⟩ := c_rows hw hi (nI j)
    obtain ⟨r2, h2⟩ := c_steps hw hi (nI j)
    obtain ⟨r3, h3⟩ := c_node (i := i) hw (nI j) ((a2 &&& 2147483647) - (a2 &&& 2147483647) / 4 * 4)
    obtain ⟨r4, h4⟩ := c_value hw hi (nI j) 0 0
    refine ⟨fun z => absurd z hge, fun _ => ⟨fun z => absurd z (by decide), fun _ => ⟨by omega, by omega, ?_⟩⟩⟩
    refine al_o hw h1 hB2 (fun I13 hB13 => ⟨by omega, by omega, al_p hw h1 hB13 (fun I15 hB15 => ⟨fun z => absurd rfl z, fun _ => ⟨by omega, by omega, ?_⟩⟩)⟩)
    refine al_o hw h2 hB15 (fun I23 hB23 => ⟨by omega, by omega, al_p hw h2 hB23 (fun I25 hB25 => ⟨fun z => absurd rfl z, fun _ => ⟨by decide, by omega, by omega, ?_⟩⟩)⟩)
    refine al_no h3 hB25 ⟨by decide, by omega, by omega, al_np h3 hB25 ⟨fun z => absurd rfl z, fun _ => ⟨by omega, by omega, ?_⟩⟩⟩
    refine al_o hw h4 hB25 (fun I41 hB41 => ⟨by omega, by omega, al_p hw h4 hB41 (fun I43 hB43 => ⟨fun z => absurd rfl z, fun _ v e => ?_⟩)⟩)
    rw [nI_s1] at e
    rw [e]
    exact hs (I43, k2 + 1 + 1 + 1 + 1 + 1 + 1 + 1 + 1, n2 + 6 + 6 + 6 + 6 + 6 + 6 + 6 + 6) ⟨hB43, by show k2 + 1 + 1 + 1 + 1 + 1 + 1 + 1 + 1 ≤ 8 + 8 * (j + 1); omega, by show n2 + 6 + 6 + 6 + 6 + 6 + 6 + 6 + 6 ≤ 48 + 48 * (j + 1); omega⟩
theorem c_alike (hw : Rw Z) (hi : i < 512) {a2 : Int32} {post : Int32 → QI → Prop} (hpost : ∀ I2, Both I2 Z i → post 1 I2) (hB : Both I Z i) : wL_areAlike a2 I post := by
  obtain ⟨r1, h1⟩ := c_ways (i := i) hw ((a2 &&& 2147483647) - (a2 &&& 2147483647) / 3 * 3)
  obtain ⟨r2, h2⟩ := c_estimate (i := i) hw (1 + ((a2 &&& 2147483647) - (a2 &&& 2147483647) / 15 * 15))
  obtain ⟨r3, h3⟩ := c_split (i := i) hw (1 + ((a2 &&& 2147483647) - (a2 &&& 2147483647) / 15 * 15))
  obtain ⟨r4, h4⟩ := c_different (i := i) hw 0
  unfold wL_areAlike
  refine ⟨by decide, by omega, by omega, ?_⟩
  refine al_o hw h1 hB (fun I3 hB3 => ⟨by decide, by omega, by omega, al_p hw h1 hB3 (fun I6 hB6 => ⟨fun z => absurd rfl z, fun _ => ⟨by decide, by omega, by omega, ?_⟩⟩)⟩)
  refine al_o hw h2 hB6 (fun I60 hB60 => ⟨by decide, by omega, by omega, al_p hw h2 hB60 (fun I63 hB63 => ⟨fun z => absurd rfl z, fun _ => ⟨by decide, by omega, by omega, ?_⟩⟩)⟩)
  refine al_o hw h3 hB63 (fun I71 hB71 => ⟨by decide, by omega, by omega, al_p hw h3 hB71 (fun I74 hB74 => ⟨fun z => absurd rfl z, fun _ => ⟨by omega, by omega, ?_⟩⟩)⟩)
  refine al_no h4 hB74 ⟨by omega, by omega, al_np h4 hB74 ⟨fun z => absurd rfl z, fun _ => ?_⟩⟩
  exact alike_97 hw hi hpost hB74 (by omega) (by omega)
end AK
