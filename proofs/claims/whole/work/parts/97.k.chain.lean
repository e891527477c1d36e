/-! pure: the reference places nodes, and filters in a chain -/
/-- the plan and the chain are written -/
def FC (I I2 : QI) : Prop := (∀ b, b ≠ 51 → b ≠ 75 → (b < 55 ∨ 62 ≤ b) → I2 b = I b) ∧ ∀ j, j ≠ 5 → j ≠ 32 → I2 51 j = I 51 j
theorem FC.rf (I : QI) : FC I I := ⟨fun _ _ _ _ => rfl, fun _ _ _ => rfl⟩
theorem FC.tr {I I2 I3 : QI} (h : FC I I2) (h2 : FC I2 I3) : FC I I3 := ⟨fun b x y z => (h2.1 b x y z).trans (h.1 b x y z), fun j x y => (h2.2 j x y).trans (h.2 j x y)⟩
theorem FC.fr {I I2 : QI} (h : FC I I2) : FR I I2 := ⟨fun b hb => h.1 b (by omega) (by omega) (by omega), fun j a _ _ d => h.2 j a d⟩
theorem FC.tm {I I2 : QI} {T : QT} (h : FC I I2) (hT : Tm I T) : Tm I2 T := by
  refine ⟨by rw [h.2 1 (by omega) (by omega)]; exact hT.1, fun u hu => ?_⟩
  rw [h.1 52 (by omega) (by omega) (by omega), h.1 53 (by omega) (by omega) (by omega), h.1 54 (by omega) (by omega) (by omega)]
  exact hT.2 u hu
/-- the plan alone is written -/
def FP (I I2 : QI) : Prop := (∀ b, b ≠ 51 → (b < 55 ∨ 62 ≤ b) → I2 b = I b) ∧ ∀ j, j ≠ 5 → j ≠ 32 → I2 51 j = I 51 j
theorem FP.fc {I I2 : QI} (h : FP I I2) : FC I I2 := ⟨fun b x _ z => h.1 b x z, h.2⟩
theorem AT.fc {S : QS} {I I2 : QI} {R : RS} (h : AT S I R) (hF : FC I I2) : AT S I2 R := by
  obtain ⟨C, u, PS, v⟩ := R
  obtain ⟨p1, p2, q1, q2, q3, hg, hL, hP, hO, lC, lP, u1, v1, u9, v9, S80, SN⟩ := h.un
  have hg0 := hg
  obtain ⟨-, -, ⟨⟨a1, b1⟩, ⟨a2, b2⟩, ⟨a3, b3⟩, ⟨a4, b4⟩, ⟨a5, b5⟩⟩, ⟨g1, g2, g3, g4, g5⟩, -⟩ := hg
  simp only at a1 a2 a3 a4 a5 g1 g2 g3 g4 g5
  have f : ∀ p, 70 ≤ p → (p < 75 ∨ 80 ≤ p) → I2 p = I p := fun p x y => hF.1 p (by omega) (by omega) (by omega)
  refine AT.mk hg0 ⟨by rw [hF.2 24 (by omega) (by omega)]; exact hL.1, fun k hk => ?_⟩ (Pt_fr hP (hF.2 27 (by omega) (by omega)) (f q1 a3 g3) (f q2 a4 g4) (f q3 a5 g5)) hO lC lP u1 v1 u9 v9 S80 SN
  rw [f p1 a1 g1, f p2 a2 g2]
  exact hL.2 k hk
section PL2
variable {I : QI} {T : QT} {P : List Nd}
theorem m_place_full {x1 x2 x3 x4 x5 x6 : Int32} {post : Int32 → QI → Prop} (h32 : I 51 32 = nI 1) (h : post N1 (q_u2 I 51 32 (nI 1))) : wX8_place x1 x2 x3 x4 x5 x6 I post := by
  unfold wX8_place
  simp (disch := omega) only [h32, q_u2_s, ne_u2, nr_u2, fa_lit, nI_ltI, nI_leI, nI_eq, nI_add, pk_mul, nI_clamp, vp_in_nI, l_uk, l_n1, l_n1e, l_n1e2, l_n1l, l_n1l2, l_n1l3, not_true_eq_false, not_false_eq_true, true_implies, false_implies, true_and, and_true, and_self, forall_eq, bI_t, bI_f, Bool.false_eq_true, or_true, true_or, or_false, false_or, s1_ltx, if_true, if_false, Nat.add_zero, Nat.zero_add,  d_leF, d_leT, d_ltF, d_ltT, d_eqF, d_eqT]
  exact h
theorem m_place {q : Nd} {post : Int32 → QI → Prop} (hT : Tm I T) (hwT : Tw T) (hP : Pm I P) (hw : Pw T P) (hq : nW T P P.length q) (h32 : I 51 32 = nI 0) (hs : ∀ i P1 I2, mk P q = some (i, P1) → Pm I2 P1 → I2 51 32 = nI 0 → FP I I2 → post (nI i) I2) (hn : mk P q = none → post N1 (q_u2 I 51 32 (nI 1))) : wX8_place (nI q.1) (nI q.2.1) (sB q.2.2.1) (o1 q) (o2 q) (o3 q) I post := by
  have h24 := hw.1
  have hf0 : ∀ x, FP I (q_u2 I 51 32 x) := fun x => ⟨fun b x z => nr_u2 x, fun j x y => q_u2_j _ _ _ y⟩
  have hP0 : ∀ x, Pm (q_u2 I 51 32 x) P := fun x => ⟨by rw [q_u2_j _ _ _ (by omega)]; exact hP.1, fun n hn => by simp (disch := omega) only [nr_u2]; exact hP.2 n hn⟩
  unfold wX8_place
  simp (disch := omega) only [h32, q_u2_s, ne_u2, nr_u2, fa_lit, nI_ltI, nI_leI, nI_eq, nI_add, pk_mul, nI_clamp, vp_in_nI, l_uk, l_n1, l_n1e, l_n1e2, l_n1l, l_n1l2, l_n1l3, not_true_eq_false, not_false_eq_true, true_implies, false_implies, true_and, and_true, and_self, forall_eq, bI_t, bI_f, Bool.false_eq_true, or_true, true_or, or_false, false_or, s1_ltx, if_true, if_false, Nat.add_zero, Nat.zero_add,  d_leF, d_leT, d_ltF, d_ltT, d_eqF, d_eqT]
  refine m_find hP hw hq.1 (fun i hi e => ?_) (fun e => ?_)
  · simp (disch := omega) only [hP.1, q_u2_s, ne_u2, nr_u2, fa_lit, nI_ltI, nI_leI, nI_eq, nI_add, pk_mul, nI_clamp, vp_in_nI, l_uk, l_n1, l_n1e, l_n1e2, l_n1l, l_n1l2, l_n1l3, not_true_eq_false, not_false_eq_true, true_implies, false_implies, true_and, and_true, and_self, forall_eq, bI_t, bI_f, Bool.false_eq_true, or_true, true_or, or_false, false_or, s1_ltx, if_true, if_false, Nat.add_zero, Nat.zero_add,  d_leF, d_leT, d_ltF, d_ltT, d_eqF, d_eqT]
    refine hs i P _ (by unfold mk; rw [e]) (hP0 _) (q_u2_s _ _ _ _) (hf0 _)
  · by_cases e2 : P.length = 24
    · simp (disch := omega) only [hP.1, q_u2_s, ne_u2, nr_u2, fa_lit, nI_ltI, nI_leI, nI_eq, nI_add, pk_mul, nI_clamp, vp_in_nI, l_uk, l_n1, l_n1e, l_n1e2, l_n1l, l_n1l2, l_n1l3, not_true_eq_false, not_false_eq_true, true_implies, false_implies, true_and, and_true, and_self, forall_eq, bI_t, bI_f, Bool.false_eq_true, or_true, true_or, or_false, false_or, s1_ltx, if_true, if_false, Nat.add_zero, Nat.zero_add,  d_leF, d_leT, d_ltF, d_ltT, d_eqF, d_eqT]
      have := hn (by unfold mk; rw [e]; exact if_neg (by omega))
      exact this
    · have hT0 : Tm (q_u2 I 51 32 (nI 0)) T := (hf0 _).fc.tm hT
      have eN : (N1 = N1) = True := eq_true rfl
      simp (disch := omega) only [hP.1, eN, q_u2_s, ne_u2, nr_u2, fa_lit, nI_ltI, nI_leI, nI_eq, nI_add, pk_mul, nI_clamp, vp_in_nI, l_uk, l_n1, l_n1e, l_n1e2, l_n1l, l_n1l2, l_n1l3, not_true_eq_false, not_false_eq_true, true_implies, false_implies, true_and, and_true, and_self, forall_eq, bI_t, bI_f, Bool.false_eq_true, or_true, true_or, or_false, false_or, s1_ltx, if_true, if_false, Nat.add_zero, Nat.zero_add,  d_leF, d_leT, d_ltF, d_ltT, d_eqF, d_eqT]
      refine m_lay hT0 hwT (hP0 _) hw hq (by omega) (fun I2 hP2 hF2 => ?_)
      have e5 : I2 51 5 = nI P.length := by rw [hF2 51 (by omega), q_u2_j _ _ _ (by omega)]; exact hP.1
      simp (disch := omega) only [e5, pk_sub, q_u2_s, ne_u2, nr_u2, fa_lit, nI_ltI, nI_leI, nI_eq, nI_add, pk_mul, nI_clamp, vp_in_nI, l_uk, l_n1, l_n1e, l_n1e2, l_n1l, l_n1l2, l_n1l3, not_true_eq_false, not_false_eq_true, true_implies, false_implies, true_and, and_true, and_self, forall_eq, bI_t, bI_f, Bool.false_eq_true, or_true, true_or, or_false, false_or, s1_ltx, if_true, if_false, Nat.add_zero, Nat.zero_add,  d_leF, d_leT, d_ltF, d_ltT, d_eqF, d_eqT]
      rw [show P.length + 1 - 1 = P.length by omega]
      refine hs P.length _ _ (by unfold mk; rw [e]; exact if_pos (by omega)) hP2 (by rw [q_u2_j _ _ _ (by omega), hF2 51 (by omega)]; exact q_u2_s _ _ _ _) ⟨fun b x z => by rw [nr_u2 x, hF2 b z, nr_u2 x], fun j x y => by rw [q_u2_j _ _ _ x, hF2 51 (by omega), q_u2_j _ _ _ y]⟩
end PL2
/-- sorted, the greatest first -/
def srt : List Nat → Prop
  | [] => True
  | x :: xs => (∀ y, y ∈ xs → y ≤ x) ∧ srt xs
theorem ins_srt {e : Nat} : ∀ {l : List Nat}, srt l → srt (ins e l)
  | [], _ => ⟨fun y hy => (by cases hy), trivial⟩
  | x :: xs, h => by
    rw [ins]
    split
    · rename_i hx
      refine ⟨fun y hy => ?_, h⟩
      rcases List.mem_cons.mp hy with z | z
      · omega
      · have := h.1 y z
        omega
    · rename_i hx
      refine ⟨fun y hy => ?_, ins_srt h.2⟩
      rcases ins_mem.mp hy with z | z
      · omega
      · exact h.1 y z
theorem dsc_srt : ∀ l : List Nat, srt (dsc l)
  | [] => trivial
  | e :: es => ins_srt (dsc_srt es)
theorem srt_le : ∀ {l : List Nat} {i j : Nat}, srt l → i < j → j < l.length → gN l j ≤ gN l i
  | [], i, j, _, _, h => absurd h (Nat.not_lt_zero j)
  | x :: xs, i, j, h, hij, hj => by
    cases j with
    | zero => omega
    | succ j =>
      rw [gN_s]
      have hj2 : j < xs.length := Nat.lt_of_succ_lt_succ hj
      cases i with
      | zero => exact h.1 _ (gN_m hj2)
      | succ i => exact srt_le h.2 (by omega) hj2
theorem ins_pfx {e : Nat} : ∀ l : List Nat, ins e l = l.take (pfx (fun x => decide (e ≤ x)) l) ++ e :: l.drop (pfx (fun x => decide (e ≤ x)) l)
  | [] => rfl
  | x :: xs => by
    rw [ins, pfx]
    by_cases h : x < e
    · rw [if_pos h, if_neg (fun z => by have := of_decide_eq_true z; omega)]
      rfl
    · rw [if_neg h, if_pos (decide_eq_true (by omega)), ins_pfx xs]
      rfl
/-- the chain's row -/
def Ch (I : QI) (M : List Nat) : Prop := ∀ j, j < M.length → I 75 j = nI (gN M j)
theorem m_withChain_66 {S : QS} {I : QI} {M : List Nat} {e : Nat} {a1 a2 a3 x5 x6 : Int32} {K : Int32 → Int32 → Int32 → Int32 → Int32 → QI → Prop} {post : Int32 → QI → Prop} (hC : Ch I M) (hs : srt M) (hM : M.length < 24) (hM7 : ∀ x, x ∈ M → x < 7200) (he : e < 7200) (h : ∀ (k : Nat) (I2 : QI), k = pfx (fun x => decide (e ≤ x)) M → (∀ b, b ≠ 75 → I2 b = I b) → (∀ j, j < k → I2 75 j = nI (gN M j)) → (∀ j, k ≤ j → j < M.length → I2 75 (j + 1) = nI (gN M j)) → K (nI M.length) x5 x6 (nI e) (nI k) I2) : ∃ f, wX8_withChain_66 S a1 a2 a3 K post f (nI M.length) x5 x6 (nI e) (nI M.length) I := by
  have hle := pfx_le (p := fun x => decide (e ≤ x)) (L := M)
  refine lpd (fun f i (I2 : QI) => wX8_withChain_66 S a1 a2 a3 K post f (nI M.length) x5 x6 (nI e) (nI i) I2) (fun i I2 => pfx (fun x => decide (e ≤ x)) M ≤ i ∧ i ≤ M.length ∧ (∀ b, b ≠ 75 → I2 b = I b) ∧ (∀ j, j < i → I2 75 j = nI (gN M j)) ∧ ∀ j, i ≤ j → j < M.length → I2 75 (j + 1) = nI (gN M j)) ?_ ?_ M.length I ⟨hle, Nat.le_refl _, fun _ _ => rfl, hC, fun j h1 h2 => by omega⟩
  · rintro f I2 ⟨h1, h2, h3, h4, h5⟩
    show wX8_withChain_66 _ _ _ _ _ _ _ _ _ _ _ _ _
    rw [wX8_withChain_66]
    simp (disch := omega) only [fa_lit, nI_ltI, nI_leI, nI_eq, nI_add, pk_mul, nI_clamp, vp_in_nI, l_uk, l_n1, l_n1e, l_n1e2, l_n1l, l_n1l2, l_n1l3, not_true_eq_false, not_false_eq_true, true_implies, false_implies, true_and, and_true, and_self, forall_eq, bI_t, bI_f, Bool.false_eq_true, or_true, true_or, or_false, false_or, s1_ltx, if_true, if_false, Nat.add_zero, Nat.zero_add,  d_leF, d_leT, d_ltF, d_ltT, d_eqF, d_eqT]
    exact h 0 I2 (by omega) h3 h4 h5
  · rintro f i I2 ⟨h1, h2, h3, h4, h5⟩ hk
    have g4 := h4 i (by omega)
    have m7 := hM7 _ (gN_m (show i < M.length by omega))
    show wX8_withChain_66 _ _ _ _ _ _ _ _ _ _ _ _ _
    rw [wX8_withChain_66]
    have e9 : nI (i + 1) - nI 1 = nI i := by rw [pk_sub (by omega)]; rfl
    have e8 : nI (i + 1) + N1 = nI i := pk_m1 i
    simp (disch := omega) only [e9, e8, g4, fa_lit, nI_ltI, nI_leI, nI_eq, nI_add, pk_mul, nI_clamp, vp_in_nI, l_uk, l_n1, l_n1e, l_n1e2, l_n1l, l_n1l2, l_n1l3, not_true_eq_false, not_false_eq_true, true_implies, false_implies, true_and, and_true, and_self, forall_eq, bI_t, bI_f, Bool.false_eq_true, or_true, true_or, or_false, false_or, s1_ltx, if_true, if_false, Nat.add_zero, Nat.zero_add,  d_leF, d_leT, d_ltF, d_ltT, d_eqF, d_eqT]
    refine ⟨fun z => ?_, fun z => ?_⟩
    · have hi : pfx (fun x => decide (e ≤ x)) M = i + 1 := by
        apply Classical.byContradiction
        intro hc
        have hlt : pfx (fun x => decide (e ≤ x)) M < M.length := by omega
        have st := of_decide_eq_false (pfx_stop hlt)
        by_cases e2 : pfx (fun x => decide (e ≤ x)) M = i
        · rw [e2] at st; exact st z
        · have := srt_le hs (show pfx (fun x => decide (e ≤ x)) M < i by omega) (show i < M.length by omega)
          omega
      exact h (i + 1) I2 hi.symm h3 h4 h5
    · have hi : pfx (fun x => decide (e ≤ x)) M ≤ i := by
        apply Classical.byContradiction
        intro hc
        have := of_decide_eq_true (pfx_lt (p := fun x => decide (e ≤ x)) (L := M) (i := i) (by omega))
        omega
      refine hk _ ⟨hi, by omega, fr_u2 h3, fun j hj => ?_, fun j hj hj2 => ?_⟩
      · rw [q_u2_j _ _ _ (by omega)]
        exact h4 j (by omega)
      · by_cases e2 : j = i
        · subst e2
          exact q_u2_s _ _ _ _
        · rw [q_u2_j _ _ _ (by omega)]
          exact h5 j (by omega) hj2
/-- what stays above a node -/
def stl (jn lf : Bool) (wa : Nat) : Nat → List Nat → List Nat
  | _, [] => []
  | g, e :: es => if !jn || stk lf wa g e then e :: stl jn lf wa (if g ≤ e then e + 1 else g) es else stl jn lf wa g es
theorem stl_m {jn lf : Bool} {wa : Nat} : ∀ {g : Nat} {L : List Nat} {x : Nat}, x ∈ stl jn lf wa g L → x ∈ L
  | _, [], x, h => by cases h
  | g, e :: es, x, h => by
    rw [stl] at h
    split at h
    · rcases List.mem_cons.mp h with z | z
      · rw [z]; exact List.mem_cons_self
      · exact List.mem_cons_of_mem _ (stl_m z)
    · exact List.mem_cons_of_mem _ (stl_m h)
theorem stl_l {jn lf : Bool} {wa : Nat} : ∀ (g : Nat) (L : List Nat), (stl jn lf wa g L).length ≤ L.length
  | _, [] => Nat.le_refl _
  | g, e :: es => by
    rw [stl]
    split
    · exact Nat.succ_le_succ (stl_l _ es)
    · exact Nat.le_succ_of_le (stl_l _ es)
theorem dsc_l : ∀ l : List Nat, (dsc l).length = l.length
  | [] => rfl
  | e :: es => by
    have ins_l : ∀ (x : Nat) (l : List Nat), (ins x l).length = l.length + 1 := by
      intro x l
      induction l with
      | nil => rfl
      | cons y ys ih =>
        rw [ins]
        split
        · rfl
        · rw [List.length_cons, ih]; rfl
    rw [dsc, ins_l, dsc_l es]
    rfl
theorem m_withChain_9 {S : QS} {T : QT} {P : List Nd} {C : List (List Nat)} {u : Nat} {PS : List Pr} {v n : Nat} {a1 a2 : Int32} {K : Int32 → QI → Prop} {post : Int32 → QI → Prop} (hw : Pw T P) (hn : n < P.length) : ∀ (L : List Nat) {I : QI} {r g : Nat} {D : List Nat}, AT S I (C, u, PS, v) → Pm I P → r ≤ C.length → lcn C r = L → g < 8000 → Ch I (dsc D) → D.length + L.length ≤ 23 → (∀ x, x ∈ D → x < 7200) → (∀ I2, FC I I2 → Pm I2 P → I2 51 32 = I 51 32 → Ch I2 (dsc (D ++ stl (decide ((nd P n).1 = 2)) (decide ((nd P n).2.2.2.1 = 1)) (nd P (nd P n).2.1).2.2.2.2.2.2 g L)) → K (nI (dsc (D ++ stl (decide ((nd P n).1 = 2)) (decide ((nd P n).2.2.2.1 = 1)) (nd P (nd P n).2.1).2.2.2.2.2.2 g L)).length) I2) → wX8_withChain_9 S a1 a2 (nI n) K post (L.length + 1) (nI (dsc D).length) (sB g) (sB r) I
  | [], I, r, g, D, hA, hP, hr, hL, hg, hC, hD, h7, h => by
    have e0 : r = 0 := by
      obtain ⟨p1, p2, q1, q2, q3, hg, hLt, hPt, hO, -⟩ := hA.un
      exact lcn_inj hO hr (Nat.zero_le _) hL
    subst e0
    have := h I (FC.rf _) hP rfl (by rw [stl, List.append_nil]; exact hC)
    rw [stl, List.append_nil] at this
    show wX8_withChain_9 _ _ _ _ _ _ _ _ _ _ _
    rw [wX8_withChain_9]
    exact ⟨fun _ => this, fun z => absurd sB_0 z⟩
  | e :: es, I, r, g, D, hA, hP, hr, hL, hg, hC, hD, h7, h => by
    have h24 := hw.1
    have b1 := (hw.2 n hn).1.1
    have e0 : ¬ r = 0 := by
      intro z
      rw [z, lcn_0] at hL
      cases hL
    obtain ⟨k, hk⟩ : ∃ k, r = k + 1 := ⟨r - 1, by omega⟩
    subst hk
    obtain ⟨p1, p2, e', r0, s1, s2, v1, v2, x1, x2, x3, x4, x5, x6⟩ := hA.un2 (show k < C.length by omega)
    rw [lcn_s, x1] at hL
    injection hL with hL1 hL2
    subst hL1
    have hp75 : p2 ≠ 75 := by
      obtain ⟨p1', p2', q1, q2, q3, hg', -⟩ := hA.un
      obtain ⟨⟨r1, r2, -⟩, -, ⟨-, ⟨a2, b2⟩, -⟩, ⟨-, g2, -⟩, -⟩ := hg'
      have r2 : S.2.2.2.2 51 26 = some p2' := r2
      rw [s2] at r2
      cases r2
      have g2 : p2 < 75 ∨ 80 ≤ p2 := g2
      omega
    have hDl : D.length + (es.length + 1) ≤ 23 := hD
    have ldD := dsc_l D
    have m7 : ∀ x, x ∈ dsc D → x < 7200 := fun x hx => h7 x (dsc_mem.mp hx)
    generalize hjn : decide ((nd P n).1 = 2) = jn at *
    generalize hlf : decide ((nd P n).2.2.2.1 = 1) = lf at *
    generalize hwa : (nd P (nd P n).2.1).2.2.2.2.2.2 = wa at *
    rw [stl] at h
    -- the next one, put in or left out
    have left : (!jn || stk lf wa g e') = false → (∀ q13 : Nat, S.2.2.2.2 51 26 = some q13 → (vp_in (nI k) (S.2.2.2.1 q13) ∧ (∀ v14 : Int32, v14 = (I q13 (nI k).toNatClampNeg) → (wX8_withChain_9 S a1 a2 (nI n) K post (es.length + 1) (nI (dsc D).length) (sB g) v14 I)))) := by
      intro est
      rw [est, if_neg (by decide)] at h
      refine b_S s2 ⟨v2, fun v14 hv => ?_⟩
      rw [hv, x3]
      have ih := m_withChain_9 (K := K) (post := post) (a1 := a1) (a2 := a2) hw hn es hA hP (show r0 ≤ C.length by omega) hL2 hg hC (by omega) h7
      rw [hjn, hlf, hwa] at ih
      exact ih h
    have put : (!jn || stk lf wa g e') = true → ∀ x5', x5' = sB (if g ≤ e' then e' + 1 else g) → (∃ f : Nat, wX8_withChain_66 S a1 a2 (nI n) (fun u5 u6 u7 u8 u9 I10 => (vp_in u9 24 ∧ (∀ I11 : QI, I11 = q_u2 I10 75 (u9).toNatClampNeg u8 → (∀ v12 : Int32, v12 = (u5 + 1) → (∀ p13 : Nat, S.2.2.2.2 51 26 = some p13 → (vp_in u7 (S.2.2.2.1 p13) ∧ (∀ v14 : Int32, v14 = (I11 p13 (u7).toNatClampNeg) → (wX8_withChain_9 S a1 a2 (nI n) K post (es.length + 1) v12 u6 v14 I11)))))))) post f (nI (dsc D).length) x5' (nI k) (nI e') (nI (dsc D).length) I) := by
      intro est x5' hx5
      rw [est, if_pos rfl] at h
      refine m_withChain_66 hC (dsc_srt D) (by omega) m7 x5 (fun m I2 hm hF2 hc1 hc2 => ?_)
      have hle := pfx_le (p := fun x => decide (e' ≤ x)) (L := dsc D)
      refine ⟨pk_in m _ (by omega) rfl (by omega), fun I11 hI11 => ?_⟩
      rw [nI_clamp (by omega)] at hI11
      intro v12 hv12
      refine b_S s2 ⟨v2, fun v14 hv14 => ?_⟩
      have eI : I11 p2 = I p2 := by rw [hI11, nr_u2 hp75, hF2 p2 hp75]
      rw [eI, x3] at hv14
      have el : (dsc (D ++ [e'])).length = (dsc D).length + 1 := by rw [dsc_l, dsc_l, List.length_append]; rfl
      have ev : v12 = nI (dsc (D ++ [e'])).length := by
        rw [hv12, el]
        exact nI_add _ 1
      rw [hv14, ev, hx5]
      have hFC : FC I I11 := ⟨fun b x y z => by rw [hI11, nr_u2 y]; exact hF2 b y, fun j x y => by rw [hI11, nr_u2 (by omega), hF2 51 (by omega)]⟩
      have hP11 : Pm I11 P := Pm_fr hP (fun b h1 h2 => by rw [hI11, nr_u2 (by omega)]; exact hF2 b (by omega))
      have hCh : Ch I11 (dsc (D ++ [e'])) := by
        intro j hj
        rw [dsc_snoc, ins_pfx, ← hm] at hj ⊢
        have lt : ((dsc D).take m).length = m := by rw [List.length_take]; omega
        rw [List.length_append, List.length_cons, List.length_drop, lt] at hj
        rw [hI11]
        rcases Nat.lt_trichotomy j m with z | z | z
        · rw [q_u2_j _ _ _ (by omega), hc1 j z, gN_l (by omega)]
          congr 1
          unfold gN
          rw [List.getD_eq_getElem?_getD, List.getD_eq_getElem?_getD, List.getElem?_take_of_lt z]
        · subst z
          have := gN_mid ((dsc D).take j) e' ((dsc D).drop j)
          rw [lt] at this
          rw [this]
          exact q_u2_s _ _ _ _
        · obtain ⟨j0, hj0⟩ : ∃ j0, j = j0 + 1 := ⟨j - 1, by omega⟩
          subst hj0
          rw [q_u2_j _ _ _ (by omega), hc2 j0 (by omega) (by omega), gN_r (by omega), lt, show j0 + 1 - m = (j0 - m) + 1 by omega, gN_s]
          congr 1
          unfold gN
          rw [List.getD_eq_getElem?_getD, List.getD_eq_getElem?_getD, List.getElem?_drop, show m + (j0 - m) = j0 by omega]
      have ih := m_withChain_9 (K := K) (post := post) (a1 := a1) (a2 := a2) hw hn es (g := if g ≤ e' then e' + 1 else g) (D := D ++ [e']) (hA.fc hFC) hP11 (show r0 ≤ C.length by omega) hL2 (by split <;> omega) hCh (by rw [List.length_append]; show D.length + 1 + es.length ≤ 23; omega) (fun x hx => by
        rcases List.mem_append.mp hx with z | z
        · exact h7 x z
        · rw [List.mem_singleton.mp z]; exact x5)
      rw [hjn, hlf, hwa] at ih
      refine ih (fun I12 f1 f2 f3 f4 => ?_)
      rw [List.append_assoc] at f4 ⊢
      exact h I12 (hFC.tr f1) f2 (by rw [f3, hI11, nr_u2 (by omega), hF2 51 (by omega)]) f4
    show wX8_withChain_9 _ _ _ _ _ _ _ _ _ _ _
    rw [wX8_withChain_9, sB_s]
    refine ⟨fun z => by
      have z2 : nI k = N1 := z
      rw [l_n1e (by omega)] at z2
      exact z2.elim, fun _ => ?_⟩
    refine b_S s1 ⟨v1, ?_⟩
    intro w hw2
    rw [x2] at hw2
    subst hw2
    refine ⟨pk_in n _ (by omega) rfl (by omega), ?_⟩
    have q55 : I 55 (nI n).toNatClampNeg = nI (nd P n).1 := by rw [nI_clamp (by omega)]; exact (hP.2 n hn).1
    rw [q55, sB_le (by omega) (by omega)]
    have eg1 : g ≤ e' → sB (if g ≤ e' then e' + 1 else g) = nI e' := fun z => by rw [if_pos z]; rfl
    have eg2 : ¬ g ≤ e' → sB (if g ≤ e' then e' + 1 else g) = sB g := fun z => by rw [if_neg z]
    refine ⟨fun z => ?_, fun z => ?_⟩
    · have z1 : jn = false := by
        rw [← hjn]
        exact decide_eq_false (fun y => z (by rw [y]; rfl))
      have est : (!jn || stk lf wa g e') = true := by rw [z1]; rfl
      exact ⟨fun y => put est _ (eg2 y).symm, fun y => put est _ (eg1 (Classical.not_not.mp y)).symm⟩
    · have z2 : (nd P n).1 = 2 := by
        have z3 : nI (nd P n).1 = nI 2 := z
        rwa [nI_eq (by omega) (by omega)] at z3
      have z1 : jn = true := by rw [← hjn]; exact decide_eq_true z2
      refine m_sticks hP hw hn z2 (by omega) (by omega) ?_
      rw [hlf, hwa]
      cases est : stk lf wa g e'
      · have e9 : (!jn || stk lf wa g e') = false := by rw [z1, est]; rfl
        exact ⟨fun _ => left e9, fun y => absurd rfl y⟩
      · have e9 : (!jn || stk lf wa g e') = true := by rw [z1, est]; rfl
        exact ⟨fun y => absurd y (by decide), fun _ => ⟨fun y => put e9 _ (eg2 y).symm, fun y => put e9 _ (eg1 (Classical.not_not.mp y)).symm⟩⟩
