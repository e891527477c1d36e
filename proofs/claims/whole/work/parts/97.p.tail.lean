/-! pure: a node laid again, in the reference -/
section TL
variable {T : QT} {P0 : List Nd} {DN : List (Nat × List Nat)} {DL : List (List Nat)}
def Sp9 (T : QT) (P0 : List Nd) (R : RS) (X : Option (List Nd)) (R2 : RS) (X2 : Option (List Nd)) (m : Int32) (w : QS → QI → Nat → Nat → (Int32 → QS → QI → Prop) → Prop) : Prop := ∀ S I c s post, At T P0 S I R X → 2 * (R2.2.1 - R.2.1) + 3 * (R2.2.2.2 - R.2.2.2) ≤ c → 256 * (R2.2.1 - R.2.1) + 384 * (R2.2.2.2 - R.2.2.2) ≤ s → (∀ S2 I2, At T P0 S2 I2 R2 X2 → FR I I2 → post m S2 I2) → w S I c s post
abbrev Rec9 : Type := Int32 → Int32 → QS → QI → Nat → Nat → (Int32 → QS → QI → Prop) → Prop
def Fi (T : QT) (P0 : List Nd) (DN : List (Nat × List Nat)) (DL : List (List Nat)) (rec : Rec9) (b n r : Nat) (L : List Nat) (R : RS) (X : Option (List Nd)) : Prop := ∃ R2, RK P0 DN DL R2 ∧ GX T P0 R2 (xo (rx X n L)) ∧ RE b R R2 ∧ Sp9 T P0 R X R2 (xo (rx X n L)) (mo (rx X n L)) (rec (nI n) (sB r))
def Rc9 (T : QT) (P0 : List Nd) (DN : List (Nat × List Nat)) (DL : List (List Nat)) (rec : Rec9) (b : Nat) : Prop := ∀ n r L R X, n < b → n < P0.length → RK P0 DN DL R → GX T P0 R X → r ≤ R.1.length → lcn R.1 r = L → okL (nd P0 n).2.2.2.2.2.2 L → L.length + n ≤ 23 → (n, L) ∈ DN → Fi T P0 DN DL rec (n + 1) n r L R X
theorem rx_ok {R : RS} {X : Option (List Nd)} {n i : Nat} {L : List Nat} {P4 : List Nd} (hG : GX T P0 R X) (hn : n < P0.length) (hL : okL (nd P0 n).2.2.2.2.2.2 L) (h : rx X n L = some (i, P4)) : ∃ P, X = some P ∧ rw1 P n L = some (i, P4) ∧ XP P P4 ∧ XP P0 P4 ∧ Pw T P4 ∧ Pd P4 ∧ i < P4.length ∧ (nd P4 i).2.2.2.2.2.2 = (nd P0 n).2.2.2.2.2.2 := by
  cases X with
  | none => cases h
  | some P =>
    obtain ⟨hx, hw, hd, -⟩ := hG P rfl
    have h : rw1 P n L = some (i, P4) := h
    have hl := hx.le
    obtain ⟨a, b, c, d, e⟩ := rw_ok hw hd (by omega) (by rw [hx.g hn]; exact hL) h
    exact ⟨P, rfl, h, c, hx.tr c, a, b, d, by rw [e, hx.g hn]⟩
theorem GX.up {R : RS} {X X2 : Option (List Nd)} (hS : Sw P0 P0.length) (hG : GX T P0 R X) (hK : RK P0 DN DL R) (h : ∀ P2, X2 = some P2 → ∃ P, X = some P ∧ XP P P2 ∧ Pw T P2 ∧ Pd P2) : GX T P0 R X2 := fun P2 e2 => by
  obtain ⟨P, e, hx, hw, hd⟩ := h P2 e2
  obtain ⟨x0, -, -, hp⟩ := hG P e
  refine ⟨x0.tr hx, hw, hd, fun k hk => ?_⟩
  obtain ⟨i, a, b⟩ := hp k hk
  exact ⟨i, a, rw_x (hS.x x0) (hK.2.2.2.2.1 k hk).1 b hx⟩
theorem m_tail_full {S : QS} {I : QI} {R : RS} {n r : Nat} {L : List Nat} {m1 m2 : Int32} {post : Int32 → QS → QI → Prop} (hA : At T P0 S I R none) (hn : n < P0.length) (hn24 : n < 24) (hr : r ≤ R.1.length) (hL : lcn R.1 r = L) (hl : L.length ≤ 23) (h : ∀ I2, At T P0 S I2 R none → FR I I2 → post N1 S I2) : tl9 (nI n) (sB r) m1 m2 S I post := by
  obtain ⟨C, u, PS, v⟩ := R
  obtain ⟨hT, hAT, ⟨P, hx, hw, hP⟩, h32⟩ := hA
  have hle := hx.le
  unfold tl9
  simp (disch := omega) only [fa_lit, nI_ltI, nI_leI, nI_eq, nI_add, pk_mul, nI_clamp, vp_in_nI, l_uk, l_n1, l_n1e, l_n1e2, l_n1l, l_n1l2, l_n1l3, not_true_eq_false, not_false_eq_true, true_implies, false_implies, true_and, and_true, and_self, forall_eq, bI_t, bI_f, Bool.false_eq_true, or_true, true_or, or_false, false_or, s1_ltx, if_true, if_false, Nat.add_zero, Nat.zero_add,  d_leF, d_leT, d_ltF, d_ltT, d_eqF, d_eqT]
  refine m_place_full h32 ?_
  have hF3 : FP I (q_u2 I 51 32 (nI 1)) := ⟨fun b x _ => nr_u2 x, fun j _ y => q_u2_j _ _ _ y⟩
  have hP3 : Pm (q_u2 I 51 32 (nI 1)) P := ⟨by rw [q_u2_j _ _ _ (by omega)]; exact hP.1, fun n hn => by simp (disch := omega) only [nr_u2]; exact hP.2 n hn⟩
  exact m_withChain_full hw hP3 (by omega) (hAT.fc hF3.fc) hr hL hl (q_u2_s _ _ _ _) (fun I2 hP2 e2 hF => h I2 ⟨(hF3.fc.tr hF).tm hT, hAT.fc (hF3.fc.tr hF), ⟨P, hx, hw, hP2⟩, e2⟩ (hF3.fc.tr hF).fr)
theorem m_tail_some {S : QS} {I : QI} {R : RS} {P : List Nd} {n r a b : Nat} {L : List Nat} {post : Int32 → QS → QI → Prop} (hwT : Tw T) (hA : At T P0 S I R (some P)) (hx : XP P0 P) (hw : Pw T P) (hd : Pd P) (hn : n < P0.length) (hb : ¬ ((nd P0 n).1 = 4 ∧ (nd P0 n).2.2.2.1 = 0)) (hq : nW T P P.length (rb (nd P0 n) a b)) (hr : r ≤ R.1.length) (hL : lcn R.1 r = L) (hl : L.length ≤ 23) (hok : okL (nd P0 n).2.2.2.2.2.2 L) (hS0 : Sw P0 P0.length) (h : ∀ I2, At T P0 S I2 R (xo (Zt P0 n L a b P)) → FR I I2 → post (mo (Zt P0 n L a b P)) S I2) : tl9 (nI n) (sB r) (nI a) (sB b) S I post := by
  obtain ⟨C, u, PS, v⟩ := R
  obtain ⟨hT, hAT, hP, h32⟩ := hA
  have hle := hx.le
  have h24 := hw.1
  have hp := hP.2 n (by omega)
  rw [hx.g hn] at hp
  obtain ⟨p1, p2, p3, p4, p5, p6, p7⟩ := hp
  unfold tl9
  simp (disch := omega) only [p1, p4, p5, p6, fa_lit, nI_ltI, nI_leI, nI_eq, nI_add, pk_mul, nI_clamp, vp_in_nI, l_uk, l_n1, l_n1e, l_n1e2, l_n1l, l_n1l2, l_n1l3, not_true_eq_false, not_false_eq_true, true_implies, false_implies, true_and, and_true, and_self, forall_eq, bI_t, bI_f, Bool.false_eq_true, or_true, true_or, or_false, false_or, s1_ltx, if_true, if_false, Nat.add_zero, Nat.zero_add,  d_leF, d_leT, d_ltF, d_ltT, d_eqF, d_eqT]
  unfold Zt at h
  refine m_place (q := rb (nd P0 n) a b) hT hwT hP hw hq h32 (fun c P3 I3 em hP3 h3 hF3 => ?_) (fun em => ?_)
  · rw [em] at h
    obtain ⟨w3, d3, x3, c3, -⟩ := mk_ok hw hd hq em
    have cw : (nd P3 c).2.2.2.2.2.2 = (nd P0 n).2.2.2.2.2.2 := mk_w (q := rb (nd P0 n) a b) hw hd hq em
    have x03 := hx.tr x3
    have e3 : nd P3 n = nd P0 n := x03.g hn
    have hl3 := x03.le
    have ef : fre P3 n L = fre P0 n L := fre_x hS0 x03 hn
    refine m_withChain (hF3.fc.tm hT) hwT hP3 w3 d3 (n := n) (by omega) (by rw [e3]; exact hb) c3 (by rw [e3]; exact cw) (by rw [e3]; exact hok) (hAT.fc hF3.fc) hr hL hl h3 (fun d P4 I4 ec hP4 h4 hF4 => ?_) (fun P4 I4 ec x4 w4 hP4 h4 hF4 => ?_)
    · rw [e3, ef] at ec
      have e9 : (some (c, P3)).bind (fun r3 : Nat × List Nd => chn (nd P0 n).2.2.2.2.2.2 r3.2 r3.1 (dsc (L.drop (fre P0 n L)))) = some (d, P4) := ec
      rw [e9] at h
      exact h I4 ⟨(hF3.fc.tr hF4).tm hT, hAT.fc (hF3.fc.tr hF4), hP4, h4⟩ (hF3.fc.tr hF4).fr
    · rw [e3, ef] at ec
      have e9 : (some (c, P3)).bind (fun r3 : Nat × List Nd => chn (nd P0 n).2.2.2.2.2.2 r3.2 r3.1 (dsc (L.drop (fre P0 n L)))) = none := ec
      rw [e9] at h
      exact h I4 ⟨(hF3.fc.tr hF4).tm hT, hAT.fc (hF3.fc.tr hF4), ⟨P4, x03.tr x4, w4, hP4⟩, h4⟩ (hF3.fc.tr hF4).fr
  · rw [em] at h
    have hF3 : FP I (q_u2 I 51 32 (nI 1)) := ⟨fun b x _ => nr_u2 x, fun j _ y => q_u2_j _ _ _ y⟩
    have hP3 : Pm (q_u2 I 51 32 (nI 1)) P := ⟨by rw [q_u2_j _ _ _ (by omega)]; exact hP.1, fun n hn => by simp (disch := omega) only [nr_u2]; exact hP.2 n hn⟩
    exact m_withChain_full hw hP3 (by omega) (hAT.fc hF3.fc) hr hL hl (q_u2_s _ _ _ _) (fun I2 hP2 e2 hF => h I2 ⟨(hF3.fc.tr hF).tm hT, hAT.fc (hF3.fc.tr hF), ⟨P, hx, hw, hP2⟩, e2⟩ (hF3.fc.tr hF).fr)
end TL
