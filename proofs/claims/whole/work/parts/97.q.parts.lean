/-! pure: a node's parts, in the reference -/
section BR
variable {T : QT} {P0 : List Nd} {DN : List (Nat × List Nat)} {DL : List (List Nat)} {R : RS} {X : Option (List Nd)} {n r : Nat} {L : List Nat} {rec : Rec9}
theorem lcn_of {C : List (List Nat)} {K : List Nat} (h : K ≠ [] → K ∈ C) : ∃ r, r ≤ C.length ∧ lcn C r = K := by
  by_cases e : K = []
  · exact ⟨0, Nat.zero_le _, e ▸ rfl⟩
  · obtain ⟨k, hk, ek⟩ := mem_getD (h e)
    exact ⟨k + 1, hk, by rw [lcn_s, ek]⟩
theorem lof_in (Y : List (List Nat) × Nat) (M : List Nat) : M ∈ (lof Y M).1 := by
  unfold lof
  by_cases h : M ∈ Y.1
  · rw [if_pos h]; exact h
  · rw [if_neg h]; exact List.mem_append.2 (Or.inr (List.mem_singleton.2 rfl))
theorem lofs_in (Y : List (List Nat) × Nat) : ∀ K : List Nat, K ≠ [] → K ∈ (lofs Y K).1
  | [], h => absurd rfl h
  | e :: K, _ => lof_in _ _
theorem st_part {sec : Bool} (hC : Cl P0 DN DL) (hw0 : Pw T P0) (hK : RK P0 DN DL R) (hG : GX T P0 R X) (hn : n < P0.length) (h2 : (nd P0 n).1 = 2) (hr : r ≤ R.1.length) (hL : lcn R.1 r = L) (hl : L.length ≤ 23) (hok : okL (nd P0 n).2.2.2.2.2.2 L) (hd : ∀ H M, (if sec then cS P0 n L else cF P0 n L) = H ++ M → M ≠ [] → M ∈ DL) : ∃ R2 r2, RK P0 DN DL R2 ∧ GX T P0 R2 X ∧ RE 0 R R2 ∧ r2 ≤ R2.1.length ∧ lcn R2.1 r2 = (if sec then cS P0 n L else cF P0 n L) ∧ Sp9 T P0 R X R2 X (sB r2) (wX8_partOf 30 (sB r) (nI n) (bI sec) (-1)) := by
  obtain ⟨C, u, PS, v⟩ := R
  have hpr := prC_eq (sec := sec) hw0 hn h2 hok
  obtain ⟨k1, k2, k3⟩ := RK_lofs (R := (C, u, PS, v)) hC.1 hK (if sec then cS P0 n L else cF P0 n L) hd
  obtain ⟨r2, a1, a2⟩ := lcn_of (C := (lofs (C, u) (if sec then cS P0 n L else cF P0 n L)).1) (lofs_in _ _)
  refine ⟨_, r2, k1, hG.re hK k2, k2, a1, a2, fun S I c s post hA hc hs h => ?_⟩
  obtain ⟨P, hx, hw, hP⟩ := hA.pl hG
  have hle := hx.le
  have e1 : nd P n = nd P0 n := hx.g hn
  have e2 : nd P (nd P0 n).2.1 = nd P0 (nd P0 n).2.1 := hx.g (by have := (hw0.2 n hn).ab.1 (by omega); omega)
  have hpr2 : prC (decide ((nd P n).2.2.2.1 = 1)) (nd P (nd P n).2.1).2.2.2.2.2.2 sec 0 L = (if sec then cS P0 n L else cF P0 n L) := by rw [e1, e2]; exact hpr
  have hm := m_partOf (sec := sec) hw (show n < P.length by omega) (by rw [e1]; exact h2) 30 (g := 0) (c := c) (s := s) (post := post) hA.at hP hr hL (by omega) (by omega)
  rw [hpr2] at hm
  refine hm k3 ?_ ?_ (fun r3 S2 I2 b1 b2 hA2 hF => ?_)
  · exact Nat.le_trans (Nat.le_add_right _ _) hc
  · exact Nat.le_trans (Nat.le_add_right _ _) hs
  · rw [lcn_inj k1.1 b1 a1 (b2.trans a2.symm)]
    exact h S2 I2 (hA.fl hA2 hF) hF.fr
theorem fre_0 (h2 : (nd P0 n).1 ≠ 2) (hb : ¬ ((nd P0 n).1 = 4 ∧ (nd P0 n).2.2.2.1 = 0)) : fre P0 n L = 0 := by
  unfold fre
  rw [if_neg h2, if_neg hb]
theorem cF_0 (h2 : (nd P0 n).1 ≠ 2) (hb : ¬ ((nd P0 n).1 = 4 ∧ (nd P0 n).2.2.2.1 = 0)) : cF P0 n L = [] := by
  unfold cF
  rw [fre_0 h2 hb, List.take_zero]
  by_cases e : (nd P0 n).1 = 4
  · rw [if_pos e]
  · rw [if_neg e]; rfl
theorem cS_0 (h2 : (nd P0 n).1 ≠ 2) (hb : ¬ ((nd P0 n).1 = 4 ∧ (nd P0 n).2.2.2.1 = 0)) : cS P0 n L = [] := by
  unfold cS
  rw [fre_0 h2 hb, List.take_zero]
  by_cases e : (nd P0 n).1 = 4
  · rw [if_pos e]
  · rw [if_neg e]; rfl
theorem cF_a (hb : (nd P0 n).1 = 4 ∧ (nd P0 n).2.2.2.1 = 0) : cF P0 n L = L ∧ cS P0 n L = L ∧ L.drop (fre P0 n L) = [] := by
  have e : fre P0 n L = L.length := by
    unfold fre
    rw [if_neg (by omega), if_pos hb]
  unfold cF cS
  rw [if_pos hb.1, if_pos hb.1, e, List.take_length, List.drop_length]
  exact ⟨rfl, rfl, rfl⟩
theorem cF_l : (cF P0 n L).length ≤ L.length := by
  unfold cF
  by_cases e : (nd P0 n).1 = 4
  · rw [if_pos e, List.length_take]; omega
  · rw [if_neg e]
    refine Nat.le_trans (List.length_filter_le _ _) ?_
    rw [List.length_take]; omega
theorem cS_l : (cS P0 n L).length ≤ L.length := by
  unfold cS
  by_cases e : (nd P0 n).1 = 4
  · rw [if_pos e, List.length_take]; omega
  · rw [if_neg e, List.length_map]
    refine Nat.le_trans (List.length_filter_le _ _) ?_
    rw [List.length_take]; omega
/-- what a place's parts came to, put together -/
theorem rb_a {P2 : List Nd} {a b : Nat} (hw0 : Pw T P0) (hn : n < P0.length) (e0 : (nd P0 n).1 ≠ 0) (w2 : Pw T P2) (a1 : a < P2.length) (a2 : (nd P2 a).2.2.2.2.2.2 = (nd P0 (nd P0 n).2.1).2.2.2.2.2.2) (b1 : (nd P0 n).2.2.1 = 0 → b = 0) (b2 : (nd P0 n).2.2.1 ≠ 0 → b ≠ 0 ∧ b - 1 < P2.length ∧ (nd P2 (b - 1)).2.2.2.2.2.2 = (nd P0 ((nd P0 n).2.2.1 - 1)).2.2.2.2.2.2) : nW T P2 P2.length (rb (nd P0 n) a b) := rb_w (hw0.2 n hn) w2 (fun z => absurd z e0) (fun _ => ⟨a1, a2⟩) b1 b2
theorem Zt_ok {P2 P4 : List Nd} {a b i : Nat} (hw : Pw T P2) (hd : Pd P2) (hq : nW T P2 P2.length (rb (nd P0 n) a b)) (hok : okL (nd P0 n).2.2.2.2.2.2 L) (h : Zt P0 n L a b P2 = some (i, P4)) : XP P2 P4 ∧ Pw T P4 ∧ Pd P4 := by
  unfold Zt at h
  cases em : mk P2 (rb (nd P0 n) a b) with
  | none => rw [em] at h; cases h
  | some r3 =>
    rw [em] at h
    obtain ⟨w3, d3, x3, c3, -⟩ := mk_ok hw hd hq em
    have cw : (nd r3.2 r3.1).2.2.2.2.2.2 = (nd P0 n).2.2.2.2.2.2 := mk_w (q := rb (nd P0 n) a b) hw hd hq em
    obtain ⟨w4, d4, x4, -, -⟩ := chn_ok w3 d3 c3 cw (okL_dsc (okL_drop hok)) h
    exact ⟨x3.tr x4, w4, d4⟩
end BR
