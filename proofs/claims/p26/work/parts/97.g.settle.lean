/-! pure: the class settles a node -/
def D1 (f : Nat) (P : List Nd) (n : Nat) (L : List Nat) (a : Nat) (P1 : List Nd) : Prop := ((nd P n).1 = 0 ∧ a = (nd P n).2.1 ∧ P1 = P) ∨ (¬ (nd P n).1 = 0 ∧ rwS f P (nd P n).2.1 (cF P n L) = some (a, P1))
def D2 (f : Nat) (P : List Nd) (n : Nat) (L : List Nat) (P1 : List Nd) (b : Nat) (P2 : List Nd) : Prop := ((nd P n).2.2.1 = 0 ∧ b = 0 ∧ P2 = P1) ∨ (¬ (nd P n).2.2.1 = 0 ∧ ∃ b0, b = b0 + 1 ∧ rwS f P1 ((nd P n).2.2.1 - 1) (cS P n L) = some (b0, P2))
section DD
variable {f : Nat} {P P1 P2 P3 : List Nd} {n a b c : Nat} {L : List Nat}
theorem D1.fn {a2 : Nat} {Q : List Nd} (h : D1 f P n L a P1) (h2 : D1 f P n L a2 Q) : a2 = a ∧ Q = P1 := by
  rcases h with ⟨e, e1, e2⟩ | ⟨e, e1⟩
  · rcases h2 with ⟨z, z1, z2⟩ | ⟨z, z1⟩
    · exact ⟨by rw [z1, e1], by rw [z2, e2]⟩
    · exact absurd e z
  · rcases h2 with ⟨z, z1, z2⟩ | ⟨z, z1⟩
    · exact absurd z e
    · rw [e1] at z1
      cases z1
      exact ⟨rfl, rfl⟩
theorem D2.fn {b2 : Nat} {Q : List Nd} (h : D2 f P n L P1 b P2) (h2 : D2 f P n L P1 b2 Q) : b2 = b ∧ Q = P2 := by
  rcases h with ⟨e, e1, e2⟩ | ⟨e, b0, e1, e2⟩
  · rcases h2 with ⟨z, z1, z2⟩ | ⟨z, b1, z1, z2⟩
    · exact ⟨by rw [z1, e1], by rw [z2, e2]⟩
    · exact absurd e z
  · rcases h2 with ⟨z, z1, z2⟩ | ⟨z, b1, z1, z2⟩
    · exact absurd z e
    · rw [e2] at z2
      cases z2
      exact ⟨by rw [z1, e1], rfl⟩
theorem no1 (hf : ¬ (nd P n).1 = 1) (h0 : ¬ (nd P n).1 = 0) (h : rwS f P (nd P n).2.1 (cF P n L) = none) : rwS (f + 1) P n L = none := by
  cases e : rwS (f + 1) P n L with
  | none => rfl
  | some r =>
    obtain ⟨a, b, c, P1, P2, P3, h1, h2, h3, h4⟩ := (rwS_s (r := r.1) (P4 := r.2) hf).mp e
    rcases h1 with ⟨z, -⟩ | ⟨-, z⟩
    · exact absurd z h0
    · rw [h] at z; cases z
theorem no2 (hf : ¬ (nd P n).1 = 1) (d1 : D1 f P n L a P1) (h0 : ¬ (nd P n).2.2.1 = 0) (h : rwS f P1 ((nd P n).2.2.1 - 1) (cS P n L) = none) : rwS (f + 1) P n L = none := by
  cases e : rwS (f + 1) P n L with
  | none => rfl
  | some r =>
    obtain ⟨a2, b, c, Q1, P2, P3, h1, h2, h3, h4⟩ := (rwS_s (r := r.1) (P4 := r.2) hf).mp e
    obtain ⟨y1, y2⟩ := d1.fn (a2 := a2) (Q := Q1) h1
    subst y1
    subst y2
    rcases h2 with ⟨z, -⟩ | ⟨-, b0, -, z⟩
    · exact absurd z h0
    · rw [h] at z; cases z
theorem no3 (hf : ¬ (nd P n).1 = 1) (d1 : D1 f P n L a P1) (d2 : D2 f P n L P1 b P2) (h : mk P2 (rb (nd P n) a b) = none) : rwS (f + 1) P n L = none := by
  cases e : rwS (f + 1) P n L with
  | none => rfl
  | some r =>
    obtain ⟨a2, b2, c, Q1, Q2, P3, h1, h2, h3, h4⟩ := (rwS_s (r := r.1) (P4 := r.2) hf).mp e
    obtain ⟨y1, y2⟩ := d1.fn (a2 := a2) (Q := Q1) h1
    subst y1
    subst y2
    obtain ⟨y1, y2⟩ := d2.fn (b2 := b2) (Q := Q2) h2
    subst y1
    subst y2
    rw [h] at h3; cases h3
theorem no4 (hf : ¬ (nd P n).1 = 1) (d1 : D1 f P n L a P1) (d2 : D2 f P n L P1 b P2) (d3 : mk P2 (rb (nd P n) a b) = some (c, P3)) (h : chn (nd P n).2.2.2.2.2.2 P3 c (dsc (L.drop (fre P n L))) = none) : rwS (f + 1) P n L = none := by
  cases e : rwS (f + 1) P n L with
  | none => rfl
  | some r =>
    obtain ⟨a2, b2, c2, Q1, Q2, Q3, h1, h2, h3, h4⟩ := (rwS_s (r := r.1) (P4 := r.2) hf).mp e
    obtain ⟨y1, y2⟩ := d1.fn (a2 := a2) (Q := Q1) h1
    subst y1
    subst y2
    obtain ⟨y1, y2⟩ := d2.fn (b2 := b2) (Q := Q2) h2
    subst y1
    subst y2
    rw [d3] at h3; cases h3
    rw [h] at h4; cases h4
end DD
/-- an entry that tells what comes of its node -/
def vld (P : List Nd) (x : Et) : Prop := ∃ r, x.2.2 = nI r ∧ rwS (x.1 + 1) P x.1 x.2.1 = some (r, P)
theorem vld.x {T : QT} {P P2 : List Nd} {x : Et} (hw : Pw T P) (hn : x.1 < P.length) (h : vld P x) (hx : XP P P2) : vld P2 x := by
  obtain ⟨r, e1, e2⟩ := h
  exact ⟨r, e1, rw_x hw.sw hn e2 hx⟩
/-- what settling a node says -/
def Sg (T : QT) (P : List Nd) (n : Nat) (L : List Nat) (lev : Nat) (I : QI) (E : List Et) (post : Int32 → QI → Prop) : Prop :=
  (∀ r P2 I2 R, rwS (n + 1) P n L = some (r, P2) → Pc I2 P2 → GL lev I I2 → Sn I2 (E ++ R) → (∀ x, x ∈ R → eOk x ∧ x.1 ≤ n ∧ vld P2 x) → post (nI r) I2) ∧
  (∀ P2 I2, rwS (n + 1) P n L = none → XP P P2 → P2.length ≤ 24 → Pc I2 P2 → GL lev I I2 → post N1 I2)
section SE
variable {T : QT}
theorem p_settleFilter {rec : Int32 → Int32 → QI → (Int32 → QI → Prop) → Prop} {I : QI} {P : List Nd} {E : List Et} {n lev : Nat} {L : List Nat} {post : Int32 → QI → Prop} (hT : Tc I T) (hP : Pc I P) (hw : Pw T P) (hn : n < P.length) (hf : (nd P n).1 = 1) (hR : Lv I lev L) (hl : lev < 24) (hL : L.length ≤ 22) (hok : okL (nd P n).2.2.2.2.2.2 L) (hS : Sn I E) (hrec : ∀ (I2 : QI) (post2 : Int32 → QI → Prop), Tc I2 T → Pc I2 P → Lv I2 (lev + 1) (qco (nd P n) :: L) → Sn I2 E → Sg T P (nd P n).2.1 (qco (nd P n) :: L) (lev + 1) I2 E post2 → rec (nI (nd P n).2.1) (nI (lev + 1)) I2 post2) (h : Sg T P n L lev I E post) : wX3_settleFilter rec (nI n) (nI lev) I post := by
  have h24 := hw.1
  have hW := hw.2 n hn
  have ha := hW.ab.1 (by omega)
  have wn6 := hW.1.2.2.2.2.2.2
  obtain ⟨e1, e2, e3, e4⟩ := qco_ok hW hf
  have kc6 := (hW.2.2.2.2.1 hf).2.1
  have hcB := hW.1.2.2.2.2.1
  unfold wX3_settleFilter
  simp (disch := omega) only [fa_lit, nI_ltI, nI_leI, nI_eq, nI_add, pk_mul, nI_clamp, vp_in_nI, l_uk, l_n1, l_n1e, l_n1e2, l_n1l, l_n1l2, l_n1l3, not_true_eq_false, not_false_eq_true, true_implies, false_implies, true_and, and_true, and_self, forall_eq, bI_t, bI_f, Bool.false_eq_true, or_true, true_or, or_false, false_or, s1_ltx, if_true, if_false, Nat.add_zero, Nat.zero_add,  d_leF, d_leT, d_ltF, d_ltT, d_eqF, d_eqT]
  refine p_empty (by omega) (fun I1 a1 a2 a3 => ?_)
  have hP1 : Pc I1 P := Pc_fr hP (fun b h1 h2 => a1 b (by omega))
  refine p_columnOf hP1 hw hn (p_kindOf hP1 hw hn (p_extraOf hP1 hw hn ?_))
  unfold wX3_codeOf
  have ec : (nI ((nd P n).2.2.2.2.1 * 1194 + (nd P n).2.2.2.1 * 199) + (nd P n).2.2.2.2.2.1) + nI 99 = nI (cc (qco (nd P n))) := by
    rw [e4, ← e1, ← e2, Int32.add_assoc, Int32.sub_add_cancel, nI_add]
    rfl
  simp (disch := omega) only [fa_lit, nI_ltI, nI_leI, nI_eq, nI_add, pk_mul, nI_clamp, vp_in_nI, l_uk, l_n1, l_n1e, l_n1e2, l_n1l, l_n1l2, l_n1l3, not_true_eq_false, not_false_eq_true, true_implies, false_implies, true_and, and_true, and_self, forall_eq, bI_t, bI_f, Bool.false_eq_true, or_true, true_or, or_false, false_or, s1_ltx, if_true, if_false, Nat.add_zero, Nat.zero_add,  d_leF, d_leT, d_ltF, d_ltT, d_eqF, d_eqT]
  rw [ec]
  have hR1 : Lv I1 lev L := ⟨(a2 lev (by omega)).trans hR.1, fun i hi => by rw [a1 31 (by omega)]; exact hR.2 i hi⟩
  have hF1 : F1 (lev + 1) I I1 := ⟨fun b h1 h2 => a1 b h2, fun j _ => by rw [a1 31 (by omega)], a2⟩
  refine p_rapp a3 (by omega) (Nat.zero_lt_succ _) (fun I2 hF2 hR2 => ?_)
  have hR2 : Lv I2 (lev + 1) [qco (nd P n)] := hR2
  refine lp (fun f i (I3 : QI) => wX3_settleFilter_43 rec (nI n) (nI lev) (fun I11 => (wX2_firstOf (nI n) I11 (fun r12 => (rec r12 (nI (lev + 1)) I11 (fun r14 I13 => post r14 I13))))) post f (nI i) I3) (fun i I3 => F1 (lev + 1) I I3 ∧ Lv I3 (lev + 1) (qco (nd P n) :: L.take i)) L.length ?_ ?_ 0 I2 (Nat.zero_le _) ⟨hF1.tr hF2, by rw [List.take_zero]; exact hR2⟩
  · rintro f I3 ⟨hF3, hR3⟩
    rw [List.take_length] at hR3
    have hP3 : Pc I3 P := Pc_fr hP (fun b h1 h2 => hF3.1 b (by omega) (by omega))
    show wX3_settleFilter_43 _ _ _ _ _ _ _ _
    rw [wX3_settleFilter_43]
    refine p_lengthOf (hF3.lv hR (by omega) (by omega)) (by omega) ?_
    simp (disch := omega) only [fa_lit, nI_ltI, nI_leI, nI_eq, nI_add, pk_mul, nI_clamp, vp_in_nI, l_uk, l_n1, l_n1e, l_n1e2, l_n1l, l_n1l2, l_n1l3, not_true_eq_false, not_false_eq_true, true_implies, false_implies, true_and, and_true, and_self, forall_eq, bI_t, bI_f, Bool.false_eq_true, or_true, true_or, or_false, false_or, s1_ltx, if_true, if_false, Nat.add_zero, Nat.zero_add,  d_leF, d_leT, d_ltF, d_ltT, d_eqF, d_eqT]
    refine p_firstOf hP3 hw hn ?_
    have hG := hF3.gl (l2 := lev + 1) (Nat.le_refl _)
    refine hrec I3 _ (hG.tc hT) hP3 hR3 (hS.fr (fun b h1 h2 h3 h4 => hF3.1 b h3 h4)) ⟨fun r P2 I4 R g1 g2 g3 g4 g5 => ?_, fun P2 I4 g1 g2 g3 g4 g5 => ?_⟩
    · refine h.1 r P2 I4 R ?_ g2 ((hG.tr g3).dn (by omega)) g4 (fun x hx => ⟨(g5 x hx).1, by have := (g5 x hx).2.1; omega, (g5 x hx).2.2⟩)
      rw [rwS_f hf, ← g1]
      exact rw_f _ _ hw.sw (by omega) (by omega) (by omega)
    · refine h.2 P2 I4 ?_ g2 g3 g4 ((hG.tr g5).dn (by omega))
      rw [rwS_f hf, ← g1]
      exact rw_f _ _ hw.sw (by omega) (by omega) (by omega)
  · rintro f i I3 hi ⟨hF3, hR3⟩ hk
    show wX3_settleFilter_43 _ _ _ _ _ _ _ _
    rw [wX3_settleFilter_43]
    have hRl := hF3.lv hR (by omega) (by omega)
    refine p_lengthOf hRl (by omega) ?_
    simp (disch := omega) only [fa_lit, nI_ltI, nI_leI, nI_eq, nI_add, pk_mul, nI_clamp, vp_in_nI, l_uk, l_n1, l_n1e, l_n1e2, l_n1l, l_n1l2, l_n1l3, not_true_eq_false, not_false_eq_true, true_implies, false_implies, true_and, and_true, and_self, forall_eq, bI_t, bI_f, Bool.false_eq_true, or_true, true_or, or_false, false_or, s1_ltx, if_true, if_false, Nat.add_zero, Nat.zero_add,  d_leF, d_leT, d_ltF, d_ltT, d_eqF, d_eqT]
    refine p_codeAt hRl (by omega) (by omega) hi ?_
    refine p_rapp hR3 (by omega) (by rw [List.length_cons, List.length_take]; omega) (fun I4 hF4 hR4 => ?_)
    refine hk I4 ⟨hF3.tr hF4, ?_⟩
    rw [gN_t hi]
    exact hR4
theorem p_settleOther {rec : Int32 → Int32 → QI → (Int32 → QI → Prop) → Prop} {I : QI} {P : List Nd} {E : List Et} {n lev : Nat} {L : List Nat} {post : Int32 → QI → Prop} (hT : Tc I T) (hwT : Tw T) (hP : Pc I P) (hw : Pw T P) (hd : Pd P) (hn : n < P.length) (hf : ¬ (nd P n).1 = 1) (hR : Lv I lev L) (hl : lev < 24) (hL : L.length ≤ 23) (hok : okL (nd P n).2.2.2.2.2.2 L) (hS : Sn I E) (hrec : ∀ (m : Nat) (M : List Nat) (Q : List Nd) (E2 : List Et) (I2 : QI) (post2 : Int32 → QI → Prop), m < n → M.length ≤ L.length → okL (nd Q m).2.2.2.2.2.2 M → Pw T Q → Pd Q → XP P Q → (∀ x, x ∈ E2 → eOk x ∧ x.1 < n ∧ vld Q x) → Tc I2 T → Pc I2 Q → Lv I2 (lev + 1) M → Sn I2 (E ++ E2) → Sg T Q m M (lev + 1) I2 (E ++ E2) post2 → rec (nI m) (nI (lev + 1)) I2 post2) (h : Sg T P n L lev I E post) : wX3_settleOther rec (nI n) (nI lev) I post := by
  have h24 := hw.1
  have hW := hw.2 n hn
  have hab := hW.ab
  have wn6 := hW.1.2.2.2.2.2.2
  have hB := hW.1
  have b1 := hW.1.1
  have hfre := fre_le (P := P) (n := n) (L := L)
  -- the end: the node made, the rest stacked
  have fin : ∀ (a b : Nat) (P1 P2 : List Nd) (R : List Et) (I2 : QI), D1 n P n L a P1 → D2 n P n L P1 b P2 → Pw T P2 → Pd P2 → XP P P2 → nW T P2 P2.length (rb (nd P n) a b) → Tc I2 T → Pc I2 P2 → GL lev I I2 → Lv I2 lev L → Sn I2 (E ++ R) → (∀ x, x ∈ R → eOk x ∧ x.1 < n ∧ vld P2 x) → wX2_kindOf (nI n) I2 (fun r5 => (wX2_columnOf (nI n) I2 (fun r6 => (wX2_extraOf (nI n) I2 (fun r7 => (wX2_make (nI (nd P n).1) (nI a) (sB b) r5 r6 r7 I2 (fun r9 I8 => (wX3_stack r9 (nI lev) (nI (fre P n L)) I8 (fun r11 I10 => post r11 I10))))))))) := by
    intro a b P1 P2 R I2 d1 d2 w2 p2 x2 hq hT2 hP2 hG2 hR2 hS2 hE2
    have en : nd P2 n = nd P n := x2.g hn
    have hn2 : n < P2.length := by have := x2.le; omega
    refine p_kindOf hP2 w2 hn2 (p_columnOf hP2 w2 hn2 (p_extraOf hP2 w2 hn2 ?_))
    rw [en]
    refine p_mk (q := rb (nd P n) a b) hT2 hwT hP2 w2 hq (fun c P3 I3 em hP3 hF3 => ?_) (fun em => ?_)
    · obtain ⟨w3, p3, x3, c3, -⟩ := mk_ok w2 p2 hq em
      have cw := mk_w w2 p2 hq em
      have hF3' : FS lev I2 I3 := FS.pl hF3
      refine p_stack (w := (nd P n).2.2.2.2.2.2) (hF3'.gl.tc hT2) hwT hP3 w3 p3 c3 cw (hR2.pl hF3) (by omega) hL hfre hok (fun r P4 I4 ec hP4 hF4 => ?_) (fun P4 I4 ec x4 l4 hP4 hF4 => ?_)
      · have hFa := hF3'.tr hF4
        refine h.1 r P4 I4 R ((rwS_s hf).mpr ⟨a, b, c, P1, P2, P3, d1, d2, em, ec⟩) hP4 (hG2.tr hFa.gl) (hS2.fr (fun b h1 h2 h3 h4 => hFa.1 b (by omega) h3 h4)) (fun x hx => ?_)
        obtain ⟨y1, y2, y3⟩ := hE2 x hx
        exact ⟨y1, by omega, y3.x w2 (by have := x2.le; omega) (x3.tr (chn_xp ec))⟩
      · exact h.2 P4 I4 (no4 hf d1 d2 em ec) ((x2.tr x3).tr x4) l4 hP4 (hG2.tr (hF3'.tr hF4).gl)
    · refine p_stack_n hR2 (by omega) (by omega) (by omega) ?_
      exact h.2 P2 I2 (no3 hf d1 d2 em) x2 w2.1 hP2 hG2
  -- the second part
  have snd : ∀ (a : Nat) (P1 : List Nd) (R : List Et) (I2 : QI), ¬ (nd P n).1 = 0 → D1 n P n L a P1 → Pw T P1 → Pd P1 → XP P P1 → a < P1.length → (nd P1 a).2.2.2.2.2.2 = (nd P (nd P n).2.1).2.2.2.2.2.2 → Tc I2 T → Pc I2 P1 → GL (lev + 1) I I2 → Sn I2 (E ++ R) → (∀ x, x ∈ R → eOk x ∧ x.1 < n ∧ vld P1 x) → ((sB (nd P n).2.2.1 = N1 → (wX2_kindOf (nI n) I2 (fun r25 => (wX2_columnOf (nI n) I2 (fun r26 => (wX2_extraOf (nI n) I2 (fun r27 => (wX2_make (nI (nd P n).1) (nI a) (sB (nd P n).2.2.1) r25 r26 r27 I2 (fun r29 I28 => (wX3_stack r29 (nI lev) (nI (fre P n L)) I28 (fun r31 I30 => post r31 I30))))))))))) ∧ (¬ sB (nd P n).2.2.1 = N1 → (wX3_passToSecond (nI n) (nI lev) (nI (fre P n L)) I2 (fun I32 => (rec (sB (nd P n).2.2.1) (nI (lev + 1)) I32 (fun r34 I33 => ((¬ r34 = N1 → (wX2_kindOf (nI n) I33 (fun r35 => (wX2_columnOf (nI n) I33 (fun r36 => (wX2_extraOf (nI n) I33 (fun r37 => (wX2_make (nI (nd P n).1) (nI a) r34 r35 r36 r37 I33 (fun r39 I38 => (wX3_stack r39 (nI lev) (nI (fre P n L)) I38 (fun r41 I40 => post r41 I40))))))))))) ∧ (r34 = N1 → post N1 I33)))))))) := by
    intro a P1 R I2 h0 d1 w1 p1 x1 a1 a2 hT2 hP2 hG2 hS2 hE2
    have hl1 := x1.le
    have en : nd P1 n = nd P n := x1.g hn
    have hR2 : Lv I2 lev L := hR.gl hG2 (by omega) (by omega)
    by_cases eb : (nd P n).2.2.1 = 0
    · have e9 : sB (nd P n).2.2.1 = N1 := by rw [eb]; rfl
      refine ⟨fun _ => ?_, fun z => absurd e9 z⟩
      rw [eb]
      exact fin a 0 P1 P1 R I2 d1 (Or.inl ⟨eb, rfl, rfl⟩) w1 p1 x1 (rb_w hW w1 (fun z => absurd z h0) (fun _ => ⟨a1, a2⟩) (fun _ => rfl) (fun z => absurd eb z)) hT2 hP2 (hG2.dn (by omega)) hR2 hS2 hE2
    · have hb := hab.2 eb
      have e9 : sB (nd P n).2.2.1 = nI ((nd P n).2.2.1 - 1) := if_neg eb
      rw [e9]
      refine ⟨fun z => ?_, fun _ => ?_⟩
      · rw [l_n1e (by omega)] at z
        exact z.elim
      · refine p_passToSecond hP2 w1 (by omega) (by rw [en]; exact h0) hR2 hl hL (by rw [en]; exact hok) hfre (fun I3 hF3 hR3 => ?_)
        have eg : ((L.take (fre P n L)).filterMap (gS P1 n)) = cS P n L := by
          rw [cS_g]
          congr 1
          funext e
          unfold gS
          rw [en, x1.g (show (nd P n).2.1 < P.length by have := hab.1 h0; omega)]
        rw [eg] at hR3
        have hP3 : Pc I3 P1 := Pc_fr hP2 (fun b h1 h2 => hF3.1 b (by omega) (by omega))
        have hG3 := hF3.gl (l2 := lev + 1) (Nat.le_refl _)
        have eB : nd P1 ((nd P n).2.2.1 - 1) = nd P ((nd P n).2.2.1 - 1) := x1.g (by omega)
        refine hrec ((nd P n).2.2.1 - 1) (cS P n L) P1 R I3 _ hb (by rw [cS_g]; exact Nat.le_trans fm_l (by rw [List.length_take]; omega)) (by rw [eB]; exact cS_ok hw hn eb hok) w1 p1 x1 hE2 (hG3.tc hT2) hP3 hR3 (hS2.fr (fun b h1 h2 h3 h4 => hF3.1 b h3 h4)) ⟨fun r P2 I4 R2 g1 g2 g3 g4 g5 => ?_, fun P2 I4 g1 g2 g3 g4 g5 => ?_⟩
        · have g1' : rwS n P1 ((nd P n).2.2.1 - 1) (cS P n L) = some (r, P2) := by
            rw [← g1]
            exact rw_f _ _ w1.sw (by omega) (by omega) (by omega)
          have hok2 : okL (nd P1 ((nd P n).2.2.1 - 1)).2.2.2.2.2.2 (cS P n L) := by rw [eB]; exact cS_ok hw hn eb hok
          obtain ⟨w2, p2, x2, r2, rw2⟩ := rw_ok w1 p1 (by omega) hok2 g1'
          have hl2 := x2.le
          have h224 := w2.1
          have hGa := (hG2.tr hG3).tr g3
          refine ⟨fun _ => ?_, fun z => ?_⟩
          · have e8 : nI r = sB (r + 1) := rfl
            rw [e8]
            have e7 : E ++ R ++ R2 = E ++ (R ++ R2) := List.append_assoc _ _ _
            rw [e7] at g4
            refine fin a (r + 1) P1 P2 (R ++ R2) I4 d1 (Or.inr ⟨eb, r, rfl, g1'⟩) w2 p2 (x1.tr x2) (rb_w hW w2 (fun z => absurd z h0) (fun _ => ⟨by omega, by rw [x2.g a1]; exact a2⟩) (fun z => absurd z eb) (fun _ => ⟨by omega, r2, by rw [show r + 1 - 1 = r by omega, rw2, eB]⟩)) (g3.tc (hG3.tc hT2)) g2 (hGa.dn (by omega)) (hR.gl hGa (by omega) (by omega)) g4 (fun x hx => ?_)
            rcases List.mem_append.mp hx with z | z
            · obtain ⟨y1, y2, y3⟩ := hE2 x z
              exact ⟨y1, y2, y3.x w1 (by omega) x2⟩
            · obtain ⟨y1, y2, y3⟩ := g5 x z
              exact ⟨y1, by omega, y3⟩
          · rw [l_n1e (by omega)] at z
            exact z.elim
        · have g1' : rwS n P1 ((nd P n).2.2.1 - 1) (cS P n L) = none := by
            rw [← g1]
            exact rw_f _ _ w1.sw (by omega) (by omega) (by omega)
          refine ⟨fun z => absurd rfl z, fun _ => ?_⟩
          exact h.2 P2 I4 (no2 hf d1 eb g1') (x1.tr g2) g3 g4 (((hG2.tr hG3).tr g5).dn (by omega))
  unfold wX3_settleOther
  refine p_typeOf hP hw hn (p_firstOf hP hw hn (p_secondOf hP hw hn (p_countFree hP hw hn hR (by omega) hL hok ?_)))
  refine ⟨fun e => ?_, fun e => ?_⟩
  · have e0 : (nd P n).1 = 0 := by
      have e5 : nI (nd P n).1 = nI 0 := e
      rwa [nI_eq (by omega) (by omega)] at e5
    have eb : (nd P n).2.2.1 = 0 := (hW.2.2.1 e0).2.1
    have e9 : sB (nd P n).2.2.1 = N1 := by rw [eb]; rfl
    refine ⟨fun _ => ?_, fun z => absurd e9 z⟩
    have hq : nW T P P.length (rb (nd P n) (nd P n).2.1 0) := rb_w hW hw (fun _ => rfl) (fun z => absurd e0 z) (fun _ => rfl) (fun z => absurd eb z)
    rw [eb]
    refine fin (nd P n).2.1 0 P P [] I (Or.inl ⟨e0, rfl, rfl⟩) (Or.inl ⟨eb, rfl, rfl⟩) hw hd (XP.rf _) hq hT hP (GL.rf _ _) hR (by rw [List.append_nil]; exact hS) (fun x hx => by cases hx)
  · have e0 : ¬ (nd P n).1 = 0 := fun z => e (by rw [z]; rfl)
    have ha := hab.1 e0
    refine p_passToFirst hP hw hn e0 hR hl hL hok hfre (fun I2 hF2 hR2 => ?_)
    rw [← cF_g] at hR2
    have hP2 : Pc I2 P := Pc_fr hP (fun b h1 h2 => hF2.1 b (by omega) (by omega))
    have hG2 := hF2.gl (l2 := lev + 1) (Nat.le_refl _)
    simp (disch := omega) only [fa_lit, nI_ltI, nI_leI, nI_eq, nI_add, pk_mul, nI_clamp, vp_in_nI, l_uk, l_n1, l_n1e, l_n1e2, l_n1l, l_n1l2, l_n1l3, not_true_eq_false, not_false_eq_true, true_implies, false_implies, true_and, and_true, and_self, forall_eq, bI_t, bI_f, Bool.false_eq_true, or_true, true_or, or_false, false_or, s1_ltx, if_true, if_false, Nat.add_zero, Nat.zero_add,  d_leF, d_leT, d_ltF, d_ltT, d_eqF, d_eqT]
    refine hrec (nd P n).2.1 (cF P n L) P [] I2 _ ha (by rw [cF_g]; exact Nat.le_trans fm_l (by rw [List.length_take]; omega)) (cF_ok hw hn hok) hw hd (XP.rf _) (fun x hx => by cases hx) (hG2.tc hT) hP2 hR2 (by rw [List.append_nil]; exact hS.fr (fun b h1 h2 h3 h4 => hF2.1 b h3 h4)) ⟨fun r P1 I4 R g1 g2 g3 g4 g5 => ?_, fun P1 I4 g1 g2 g3 g4 g5 => ?_⟩
    · have g1' : rwS n P (nd P n).2.1 (cF P n L) = some (r, P1) := by
        rw [← g1]
        exact rw_f _ _ hw.sw (by omega) (by omega) (by omega)
      obtain ⟨w1, p1, x1, r1, rw1⟩ := rw_ok hw hd (by omega) (cF_ok hw hn hok) g1'
      have h124 := w1.1
      rw [List.append_nil] at g4
      have sn := snd r P1 R I4 e0 (Or.inr ⟨e0, g1'⟩) w1 p1 x1 r1 rw1 (g3.tc (hG2.tc hT)) g2 (hG2.tr g3) g4 (fun x hx => ⟨(g5 x hx).1, by have := (g5 x hx).2.1; omega, (g5 x hx).2.2⟩)
      exact ⟨fun _ => sn, fun z => by
        have z2 : nI r = N1 := z
        rw [l_n1e (by omega)] at z2
        exact z2.elim⟩
    · have g1' : rwS n P (nd P n).2.1 (cF P n L) = none := by
        rw [← g1]
        exact rw_f _ _ hw.sw (by omega) (by omega) (by omega)
      refine ⟨fun z => absurd rfl z, fun _ => ?_⟩
      exact h.2 P1 I4 (no1 hf e0 g1') g2 g3 g4 ((hG2.tr g5).dn (by omega))
end SE
