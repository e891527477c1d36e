/-! pure: the class rewrites -/
theorem okL_6 {w : Nat} {L : List Nat} (h : okL w L) (hw : w ≤ 6) : okL 6 L := fun e he => ⟨by have := (h e he).1; omega, (h e he).2⟩
theorem p_settle {T : QT} (hwT : Tw T) : ∀ (f : Nat) {I : QI} {P : List Nd} {E : List Et} {n lev : Nat} {L : List Nat} {post : Int32 → QI → Prop}, Tc I T → Pc I P → Pw T P → Pd P → n < P.length → n < f → lev + n ≤ 23 → Lv I lev L → L.length ≤ lev → okL (nd P n).2.2.2.2.2.2 L → Sn I E → (∀ x, x ∈ E → eOk x) → (∀ x, x ∈ E → x.1 ≤ n → vld P x) → Sg T P n L lev I E post → wX3_settle f (nI n) (nI lev) I post
  | 0, I, P, E, n, lev, L, post, _, _, _, _, _, h, _, _, _, _, _, _, _, _ => absurd h (Nat.not_lt_zero n)
  | f + 1, I, P, E, n, lev, L, post, hT, hP, hw, hd, hn, hf, hlev, hR, hL, hok, hS, hE, hV, h => by
    have h24 := hw.1
    have hW := hw.2 n hn
    have hab := hW.ab
    have wn6 := hW.1.2.2.2.2.2.2
    have b1 := hW.1.1
    have hok6 := okL_6 hok wn6
    -- a step, whatever was remembered
    have step : ∀ (I3 : QI) (E1 : List Et) (post2 : Int32 → QI → Prop), Tc I3 T → Pc I3 P → Lv I3 lev L → Sn I3 E1 → (∀ x, x ∈ E1 → eOk x) → (∀ x, x ∈ E1 → x.1 < n → vld P x) → Sg T P n L lev I3 E1 post2 → ((¬ nI (nd P n).1 = nI 1 → wX3_settleOther (wX3_settle f) (nI n) (nI lev) I3 post2) ∧ (nI (nd P n).1 = nI 1 → wX3_settleFilter (wX3_settle f) (nI n) (nI lev) I3 post2)) := by
      intro I3 E1 post2 hT3 hP3 hR3 hS3 hE3 hV3 h3
      refine ⟨fun e => ?_, fun e => ?_⟩
      · have e1 : ¬ (nd P n).1 = 1 := fun z => e (by rw [z])
        refine p_settleOther hT3 hwT hP3 hw hd hn e1 hR3 (by omega) (by omega) hok hS3 (fun m M Q E2 I2 post3 g1 g2 g3 g4 g5 g6 g7 g8 g9 g10 g11 g12 => ?_) h3
        refine p_settle hwT f g8 g9 g4 g5 (by have := g6.le; omega) (by omega) (by omega) g10 (by omega) g3 g11 (fun x hx => ?_) (fun x hx hxm => ?_) g12
        · rcases List.mem_append.mp hx with z | z
          · exact hE3 x z
          · exact (g7 x z).1
        · rcases List.mem_append.mp hx with z | z
          · exact (hV3 x z (by omega)).x hw (by omega) g6
          · exact (g7 x z).2.2
      · rw [nI_eq (by omega) (by omega)] at e
        have ha := hab.1 (by omega)
        refine p_settleFilter hT3 hP3 hw hn e hR3 (by omega) (by omega) hok hS3 (fun I2 post3 g1 g2 g3 g4 g5 => ?_) h3
        refine p_settle hwT f g1 g2 hw hd (by omega) (by omega) (by omega) g3 (by rw [List.length_cons]; omega) (qc_ok hw hn e hok) g4 hE3 (fun x hx hxm => hV3 x hx (by omega)) g5
    rw [wX3_settle]
    refine p_has hP hw hn ?_
    simp (disch := omega) only [fa_lit, nI_ltI, nI_leI, nI_eq, nI_add, pk_mul, nI_clamp, vp_in_nI, l_uk, l_n1, l_n1e, l_n1e2, l_n1l, l_n1l2, l_n1l3, not_true_eq_false, not_false_eq_true, true_implies, false_implies, true_and, and_true, and_self, forall_eq, bI_t, bI_f, Bool.false_eq_true, or_true, true_or, or_false, false_or, s1_ltx, if_true, if_false, Nat.add_zero, Nat.zero_add,  d_leF, d_leT, d_ltF, d_ltT, d_eqF, d_eqT]
    refine p_sfind hS hE (by omega) hR (by omega) (by omega) hok6 (fun k hk e1 e2 => ?_) ?_
    · obtain ⟨r, v1, v2⟩ := hV _ (se_m hk) (by rw [e1]; exact Nat.le_refl _)
      rw [e1, e2] at v2
      have h256 := hS.2.1
      have e36 : I 36 k = nI r := by rw [(hS.2.2 k hk).2.2.2, v1]
      simp (disch := omega) only [e36, fa_lit, nI_ltI, nI_leI, nI_eq, nI_add, pk_mul, nI_clamp, vp_in_nI, l_uk, l_n1, l_n1e, l_n1e2, l_n1l, l_n1l2, l_n1l3, not_true_eq_false, not_false_eq_true, true_implies, false_implies, true_and, and_true, and_self, forall_eq, bI_t, bI_f, Bool.false_eq_true, or_true, true_or, or_false, false_or, s1_ltx, if_true, if_false, Nat.add_zero, Nat.zero_add,  d_leF, d_leT, d_ltF, d_ltT, d_eqF, d_eqT]
      exact h.1 r P I [] v2 hP (GL.rf _ _) (by rw [List.append_nil]; exact hS) (fun x hx => by cases hx)
    · have eN : (N1 = N1) = True := eq_true rfl
      refine ⟨fun _ => ?_, fun z => absurd rfl z⟩
      by_cases hl : E.length < 256
      · refine p_remember hS hE hl (by omega) hR (by omega) (by omega) (fun I3 hF3 hS3 => ?_)
        have hP3 : Pc I3 P := Pc_fr hP (fun b h1 h2 => hF3 b (by omega))
        have hT3 : Tc I3 T := Tc_fr hT (fun b hb => hF3 b (by omega))
        have hR3 : Lv I3 lev L := ⟨by rw [hF3 32 (by omega)]; exact hR.1, fun i hi => by rw [hF3 31 (by omega)]; exact hR.2 i hi⟩
        have hG3 : GL lev I I3 := ⟨fun b hb => hF3 b (by omega), fun j _ => by rw [hF3 31 (by omega)], fun j _ => by rw [hF3 32 (by omega)]⟩
        refine p_typeOf hP3 hw hn ?_
        simp (disch := omega) only [fa_lit, nI_ltI, nI_leI, nI_eq, nI_add, pk_mul, nI_clamp, vp_in_nI, l_uk, l_n1, l_n1e, l_n1e2, l_n1l, l_n1l2, l_n1l3, not_true_eq_false, not_false_eq_true, true_implies, false_implies, true_and, and_true, and_self, forall_eq, bI_t, bI_f, Bool.false_eq_true, or_true, true_or, or_false, false_or, s1_ltx, if_true, if_false, Nat.add_zero, Nat.zero_add,  d_leF, d_leT, d_ltF, d_ltT, d_eqF, d_eqT]
        have st := step I3 (E ++ [(n, L, N1)]) (fun r7 I6 => post r7 (q_u2 I6 36 E.length r7)) hT3 hP3 hR3 hS3 (fun x hx => ?_) (fun x hx hxm => ?_) ⟨fun r P2 I4 R g1 g2 g3 g4 g5 => ?_, fun P2 I4 g1 g2 g3 g4 g5 => ?_⟩
        · rw [nI_eq (by omega) (by omega)] at st
          exact st
        · rcases List.mem_append.mp hx with z | z
          · exact hE x z
          · rw [List.mem_singleton.mp z]
            exact ⟨by show n < 24; omega, by show L.length ≤ 23; omega, hok6⟩
        · rcases List.mem_append.mp hx with z | z
          · exact hV x z (by omega)
          · rw [List.mem_singleton.mp z] at hxm
            exact absurd hxm (Nat.lt_irrefl n)
        · rw [List.append_assoc] at g4
          refine h.1 r P2 _ ((n, L, nI r) :: R) g1 (Pc_fr g2 (fun b h1 h2 => nr_u2 (by omega))) ((hG3.tr g3).tr ⟨fun b hb => nr_u2 (by omega), fun j _ => by rw [nr_u2 (by omega)], fun j _ => by rw [nr_u2 (by omega)]⟩) (Sn.res g4) (fun x hx => ?_)
          rcases List.mem_cons.mp hx with z | z
          · rw [z]
            exact ⟨⟨by show n < 24; omega, by show L.length ≤ 23; omega, hok6⟩, Nat.le_refl _, r, rfl, rw_x hw.sw hn g1 (XP.rf _)⟩
          · exact g5 x z
        · exact h.2 P2 _ g1 g2 g3 (Pc_fr g4 (fun b h1 h2 => nr_u2 (by omega))) ((hG3.tr g5).tr ⟨fun b hb => nr_u2 (by omega), fun j _ => by rw [nr_u2 (by omega)], fun j _ => by rw [nr_u2 (by omega)]⟩)
      · have e30 := hS.1
        have h256 := hS.2.1
        unfold wX3_remember
        simp (disch := omega) only [e30, fa_lit, nI_ltI, nI_leI, nI_eq, nI_add, pk_mul, nI_clamp, vp_in_nI, l_uk, l_n1, l_n1e, l_n1e2, l_n1l, l_n1l2, l_n1l3, not_true_eq_false, not_false_eq_true, true_implies, false_implies, true_and, and_true, and_self, forall_eq, bI_t, bI_f, Bool.false_eq_true, or_true, true_or, or_false, false_or, s1_ltx, if_true, if_false, Nat.add_zero, Nat.zero_add,  d_leF, d_leT, d_ltF, d_ltT, d_eqF, d_eqT]
        refine p_typeOf hP hw hn ?_
        have eN2 : (N1 = N1) = True := eq_true rfl
        simp (disch := omega) only [eN2, fa_lit, nI_ltI, nI_leI, nI_eq, nI_add, pk_mul, nI_clamp, vp_in_nI, l_uk, l_n1, l_n1e, l_n1e2, l_n1l, l_n1l2, l_n1l3, not_true_eq_false, not_false_eq_true, true_implies, false_implies, true_and, and_true, and_self, forall_eq, bI_t, bI_f, Bool.false_eq_true, or_true, true_or, or_false, false_or, s1_ltx, if_true, if_false, Nat.add_zero, Nat.zero_add,  d_leF, d_leT, d_ltF, d_ltT, d_eqF, d_eqT]
        have st := step I E post hT hP hR hS hE (fun x hx hxm => hV x hx (by omega)) h
        rw [nI_eq (by omega) (by omega)] at st
        exact st
theorem p_rewritten {I : QI} {T : QT} {P : List Nd} {n : Nat} {post : Int32 → QI → Prop} (hT : Tc I T) (hwT : Tw T) (hP : Pc I P) (hw : Pw T P) (hd : Pd P) (hn : n < P.length) (hs : ∀ r P2 I2, rwS (n + 1) P n [] = some (r, P2) → Pc I2 P2 → (∀ b, b < 15 ∨ (23 ≤ b ∧ b < 30) ∨ 37 ≤ b → I2 b = I b) → post (nI r) I2) (hno : ∀ I2, rwS (n + 1) P n [] = none → Pc I2 P → (∀ b, b < 15 ∨ (23 ≤ b ∧ b < 30) ∨ 37 ≤ b → I2 b = I b) → post N1 I2) : wX3_rewritten (nI n) I post := by
  have h24 := hw.1
  unfold wX3_rewritten wX2_size
  simp (disch := omega) only [hP.1, fa_lit, nI_ltI, nI_leI, nI_eq, nI_add, pk_mul, nI_clamp, vp_in_nI, l_uk, l_n1, l_n1e, l_n1e2, l_n1l, l_n1l2, l_n1l3, not_true_eq_false, not_false_eq_true, true_implies, false_implies, true_and, and_true, and_self, forall_eq, bI_t, bI_f, Bool.false_eq_true, or_true, true_or, or_false, false_or, s1_ltx, if_true, if_false, Nat.add_zero, Nat.zero_add,  d_leF, d_leT, d_ltF, d_ltT, d_eqF, d_eqT]
  refine p_empty (lev := 0) (by omega) (fun I1 a1 a2 a3 => ?_)
  have hF1 : ∀ b, b ≠ 30 → b ≠ 32 → I1 b = I b := fun b h1 h2 => by rw [a1 b h2, nr_u2 h1]
  have hP1 : Pc I1 P := Pc_fr hP (fun b h1 h2 => hF1 b (by omega) (by omega))
  have hT1 : Tc I1 T := Tc_fr hT (fun b hb => hF1 b (by omega) (by omega))
  have hS1 : Sn I1 [] := ⟨by rw [a1 30 (by omega)]; exact q_u2_s _ _ _ _, Nat.zero_le _, fun k hk => absurd hk (Nat.not_lt_zero k)⟩
  have ok0 : okL (nd P n).2.2.2.2.2.2 [] := fun e he => by cases he
  refine p_settle hwT 26 hT1 hP1 hw hd hn (by omega) (by omega) a3 (Nat.le_refl _) ok0 hS1 (fun x hx => by cases hx) (fun x hx => by cases hx) ⟨fun r P2 I2 R g1 g2 g3 g4 g5 => ?_, fun P2 I2 g1 g2 g3 g4 g5 => ?_⟩
  · obtain ⟨w2, p2, x2, r2, -⟩ := rw_ok hw hd hn ok0 g1
    have h224 := w2.1
    have hh := hs r P2 I2 g1 g2 (fun b hb => by rw [g3.1 b hb]; exact hF1 b (by omega) (by omega))
    refine ⟨fun _ => hh, fun z => ?_⟩
    rw [l_n1e (by omega)] at z
    exact z.elim
  · have hle := g2.le
    have hh := fun I3 => hno I3 g1
    refine ⟨fun z => absurd rfl z, fun _ => ?_⟩
    unfold wX2_cutTo
    have e15 := g4.1
    have hF9 : ∀ b, b < 15 ∨ (23 ≤ b ∧ b < 30) ∨ 37 ≤ b → I2 b = I b := fun b hb => by rw [g5.1 b hb]; exact hF1 b (by omega) (by omega)
    simp (disch := omega) only [e15, fa_lit, nI_ltI, nI_leI, nI_eq, nI_add, pk_mul, nI_clamp, vp_in_nI, l_uk, l_n1, l_n1e, l_n1e2, l_n1l, l_n1l2, l_n1l3, not_true_eq_false, not_false_eq_true, true_implies, false_implies, true_and, and_true, and_self, forall_eq, bI_t, bI_f, Bool.false_eq_true, or_true, true_or, or_false, false_or, s1_ltx, if_true, if_false, Nat.add_zero, Nat.zero_add,  d_leF, d_leT, d_ltF, d_ltT, d_eqF, d_eqT]
    refine ⟨fun e => ?_, fun e => ?_⟩
    · refine hh I2 ⟨by rw [e15]; congr 1; omega, fun k hk => ?_⟩ hF9
      rw [← g2.g hk]
      exact g4.2 k (by omega)
    · refine hh _ ⟨q_u2_s _ _ _ _, fun k hk => ?_⟩ (fun b hb => by rw [nr_u2 (by omega)]; exact hF9 b hb)
      simp (disch := omega) only [nr_u2]
      rw [← g2.g hk]
      exact g4.2 k (by omega)
