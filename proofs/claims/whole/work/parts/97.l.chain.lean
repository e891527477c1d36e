/-! pure: the reference's chain whole; what is parted is what the class passes -/
theorem stl_all {lf : Bool} {wa : Nat} : ∀ (g : Nat) (L : List Nat), stl false lf wa g L = L
  | _, [] => rfl
  | g, e :: es => by
    rw [stl, if_pos (show (!false || stk lf wa g e) = true from rfl), stl_all _ es]
theorem stl_no {wa : Nat} : ∀ (g : Nat) (L : List Nat), stl true false wa g L = []
  | _, [] => rfl
  | g, e :: es => by
    have : stk false wa g e = false := rfl
    rw [stl, this, if_neg (by decide), stl_no _ es]
theorem stk_hi {wa g e : Nat} (h : 1200 * wa ≤ g) : stk true wa g e = true := by
  unfold stk
  by_cases e1 : e / 1200 < wa
  · rw [decide_eq_true (show ¬ g ≤ e by omega), Bool.or_true]
    rfl
  · rw [decide_eq_true e1, Bool.true_or]
    rfl
theorem stl_hi {wa : Nat} : ∀ (g : Nat) (L : List Nat), 1200 * wa ≤ g → stl true true wa g L = L
  | _, [], _ => rfl
  | g, e :: es, h => by
    rw [stl, stk_hi h, if_pos (by decide), stl_hi _ es (by split <;> omega)]
theorem stl_left {wa : Nat} : ∀ (L : List Nat), stl true true wa 0 L = L.drop (pre wa L)
  | [] => rfl
  | e :: es => by
    rw [stl, pre]
    by_cases e1 : e / 1200 < wa
    · have : stk true wa 0 e = false := by
        unfold stk
        rw [decide_eq_false (fun z => z e1), decide_eq_false (fun z => z (Nat.zero_le e))]
        rfl
      rw [this, if_neg (by decide), if_pos e1, stl_left es]
      rfl
    · have : stk true wa 0 e = true := by
        unfold stk
        rw [decide_eq_true e1]
        rfl
      rw [this, if_pos (by decide), if_neg e1, if_pos (Nat.zero_le e), stl_hi _ es (by omega)]
      rfl
theorem pre_all {wa : Nat} : ∀ {L : List Nat}, (∀ e, e ∈ L → e / 1200 < wa) → pre wa L = L.length
  | [], _ => rfl
  | e :: es, h => by
    rw [pre, if_pos (h e List.mem_cons_self), pre_all (fun x hx => h x (List.mem_cons_of_mem _ hx))]
    rfl
theorem stl_fre {T : QT} {P : List Nd} {n : Nat} {L : List Nat} (hw : Pw T P) (hn : n < P.length) (hb : ¬ ((nd P n).1 = 4 ∧ (nd P n).2.2.2.1 = 0)) (hok : okL (nd P n).2.2.2.2.2.2 L) : stl (decide ((nd P n).1 = 2)) (decide ((nd P n).2.2.2.1 = 1)) (nd P (nd P n).2.1).2.2.2.2.2.2 0 L = L.drop (fre P n L) := by
  have hwd := (hw.2 n hn).2.1
  unfold fre
  by_cases e2 : (nd P n).1 = 2
  · rw [decide_eq_true e2, if_pos e2]
    by_cases ek : (nd P n).2.2.2.1 = 1
    · rw [decide_eq_true ek, if_neg (by omega), stl_left]
    · rw [decide_eq_false ek, stl_no]
      by_cases e0 : (nd P n).2.2.2.1 = 0
      · rw [if_pos e0, List.drop_length]
      · unfold wd at hwd
        rw [if_neg (by omega), if_neg (by omega), if_neg (by omega)] at hwd
        rw [if_neg e0, pre_all (fun e he => by rw [← hwd]; exact (hok e he).1), List.drop_length]
  · rw [decide_eq_false e2, if_neg e2, if_neg hb, stl_all]
    rfl
/-- parting, a step: what goes on -/
def gP9 (wa : Nat) (sec : Bool) (e : Nat) : Option Nat := if decide (¬ e / 1200 < wa) = sec then some (if sec then e - 1200 * wa else e) else none
theorem prC_no {wa : Nat} {sec : Bool} : ∀ (g : Nat) (L : List Nat), prC false wa sec g L = L.filterMap (gP9 wa sec)
  | _, [] => rfl
  | g, e :: es => by
    have : stk false wa g e = false := rfl
    rw [prC, this, if_neg (by decide), prC_no g es]
    by_cases e1 : decide (¬ e / 1200 < wa) = sec
    · have ex : gP9 wa sec e = some (if sec then e - 1200 * wa else e) := if_pos e1
      rw [if_pos e1, List.filterMap_cons_some ex]
    · have ex : gP9 wa sec e = none := if_neg e1
      rw [if_neg e1, List.filterMap_cons_none ex]
theorem prC_hi {wa : Nat} {sec : Bool} : ∀ (g : Nat) (L : List Nat), 1200 * wa ≤ g → prC true wa sec g L = []
  | _, [], _ => rfl
  | g, e :: es, h => by
    rw [prC, stk_hi h, if_pos rfl, prC_hi _ es (by split <;> omega)]
theorem prC_left {wa : Nat} {sec : Bool} : ∀ (L : List Nat), prC true wa sec 0 L = (L.take (pre wa L)).filterMap (gP9 wa sec)
  | [] => rfl
  | e :: es => by
    rw [prC, pre]
    by_cases e1 : e / 1200 < wa
    · have : stk true wa 0 e = false := by
        unfold stk
        rw [decide_eq_false (fun z => z e1), decide_eq_false (fun z => z (Nat.zero_le e))]
        rfl
      rw [this, if_neg (by decide), if_pos e1, prC_left es, List.take_succ_cons]
      by_cases e2 : decide (¬ e / 1200 < wa) = sec
      · have ex : gP9 wa sec e = some (if sec then e - 1200 * wa else e) := if_pos e2
        rw [if_pos e2, List.filterMap_cons_some ex]
      · have ex : gP9 wa sec e = none := if_neg e2
        rw [if_neg e2, List.filterMap_cons_none ex]
    · have : stk true wa 0 e = true := by
        unfold stk
        rw [decide_eq_true e1]
        rfl
      rw [this, if_pos rfl, if_neg e1, if_pos (Nat.zero_le e), prC_hi _ es (by omega)]
      rfl
theorem prC_eq {T : QT} {P : List Nd} {n : Nat} {L : List Nat} {sec : Bool} (hw : Pw T P) (hn : n < P.length) (h2 : (nd P n).1 = 2) (hok : okL (nd P n).2.2.2.2.2.2 L) : prC (decide ((nd P n).2.2.2.1 = 1)) (nd P (nd P n).2.1).2.2.2.2.2.2 sec 0 L = if sec then cS P n L else cF P n L := by
  have hwd := (hw.2 n hn).2.1
  have e0 : prC (decide ((nd P n).2.2.2.1 = 1)) (nd P (nd P n).2.1).2.2.2.2.2.2 sec 0 L = (L.take (fre P n L)).filterMap (gP9 (nd P (nd P n).2.1).2.2.2.2.2.2 sec) := by
    unfold fre
    rw [if_pos h2]
    by_cases ek : (nd P n).2.2.2.1 = 1
    · rw [decide_eq_true ek, if_neg (by omega), prC_left]
    · rw [decide_eq_false ek, prC_no]
      by_cases e0 : (nd P n).2.2.2.1 = 0
      · rw [if_pos e0, List.take_length]
      · unfold wd at hwd
        rw [if_neg (by omega), if_neg (by omega), if_neg (by omega)] at hwd
        rw [if_neg e0, pre_all (fun e he => by rw [← hwd]; exact (hok e he).1), List.take_length]
  rw [e0]
  cases sec
  · rw [if_neg (by decide), cF_g]
    congr 1
    funext e
    unfold gP9 gF
    by_cases e1 : e / 1200 < (nd P (nd P n).2.1).2.2.2.2.2.2
    · rw [decide_eq_false (fun z => z e1), if_pos rfl, if_pos (Or.inr e1)]
      rfl
    · rw [decide_eq_true e1, if_neg (by decide), if_neg (fun z => z.elim (fun z => by omega) e1)]
  · rw [if_pos rfl, cS_g]
    congr 1
    funext e
    unfold gP9 gS
    rw [if_neg (show ¬ (nd P n).1 = 4 by omega)]
    by_cases e1 : e / 1200 < (nd P (nd P n).2.1).2.2.2.2.2.2
    · rw [decide_eq_false (fun z => z e1), if_neg (by decide), if_pos e1]
    · rw [decide_eq_true e1, if_pos rfl, if_neg e1]
      rfl
theorem stl_len {jn lf : Bool} {wa : Nat} : ∀ (g : Nat) (L : List Nat), (stl jn lf wa g L).length ≤ L.length
  | _, [] => Nat.le_refl _
  | g, e :: es => by
    rw [stl]
    by_cases h : (!jn || stk lf wa g e) = true
    · rw [if_pos h]
      exact Nat.succ_le_succ (stl_len _ es)
    · rw [if_neg h]
      exact Nat.le_succ_of_le (stl_len _ es)
section CH
variable {S : QS} {I : QI} {T : QT} {P : List Nd}
theorem Ch.fp {I2 : QI} {M : List Nat} (h : Ch I M) (hF : FP I I2) : Ch I2 M := fun j hj => by rw [hF.1 75 (by omega) (by omega)]; exact h j hj
theorem m_withChain_137 {M : List Nat} {a w : Nat} {a1 a2 a3 : Int32} {post : Int32 → QI → Prop} (hT : Tm I T) (hwT : Tw T) (hP : Pm I P) (hw : Pw T P) (hd : Pd P) (ha : a < P.length) (ew : (nd P a).2.2.2.2.2.2 = w) (hM : M.length ≤ 23) (hok : okL w M) (hC : Ch I M) (h32 : I 51 32 = nI 0) (hs : ∀ r P2 I2, chn w P a M = some (r, P2) → Pm I2 P2 → I2 51 32 = nI 0 → FC I I2 → post (nI r) I2) (hn : ∀ P2 I2, chn w P a M = none → XP P P2 → Pw T P2 → Pm I2 P2 → I2 51 32 = nI 1 → FC I I2 → post N1 I2) : ∃ f, wX8_withChain_137 S a1 a2 a3 post f (nI M.length) (nI a) 0 I := by
  have w6 : w ≤ 6 := by rw [← ew]; exact (hw.2 a ha).1.2.2.2.2.2.2
  refine lp (fun f i (s : Int32 × QI) => wX8_withChain_137 S a1 a2 a3 post f (nI M.length) s.1 (nI i) s.2) (fun i s => FC I s.2 ∧ Ch s.2 M ∧ ∃ Q : List Nd, XP P Q ∧ Pw T Q ∧ Pm s.2 Q ∧ ((s.1 = N1 ∧ s.2 51 32 = nI 1 ∧ chn w P a M = none) ∨ (∃ b, s.1 = nI b ∧ s.2 51 32 = nI 0 ∧ Pd Q ∧ b < Q.length ∧ (nd Q b).2.2.2.2.2.2 = w ∧ chn w P a M = chn w Q b (M.drop i)))) M.length ?_ ?_ 0 (nI a, I) (Nat.zero_le _) ⟨FC.rf _, hC, P, XP.rf _, hw, hP, Or.inr ⟨a, rfl, h32, hd, ha, ew, rfl⟩⟩
  · rintro f ⟨m, I2⟩ ⟨hF, hC2, Q, hX, e0, hP2, hc⟩
    replace hF : FC I I2 := hF
    show wX8_withChain_137 _ _ _ _ _ _ _ _ _ _
    rw [wX8_withChain_137]
    simp (disch := omega) only [fa_lit, nI_ltI, nI_leI, nI_eq, nI_add, pk_mul, nI_clamp, vp_in_nI, l_uk, l_n1, l_n1e, l_n1e2, l_n1l, l_n1l2, l_n1l3, not_true_eq_false, not_false_eq_true, true_implies, false_implies, true_and, and_true, and_self, forall_eq, bI_t, bI_f, Bool.false_eq_true, or_true, true_or, or_false, false_or, s1_ltx, if_true, if_false, Nat.add_zero, Nat.zero_add,  d_leF, d_leT, d_ltF, d_ltT, d_eqF, d_eqT]
    rcases hc with ⟨e1, e2, e3⟩ | ⟨b, e1, e2, e4, e5, e6, e7⟩
    · have e1 : m = N1 := e1
      rw [e1]
      exact hn Q I2 e3 hX e0 hP2 e2 hF
    · have e1 : m = nI b := e1
      rw [List.drop_length] at e7
      rw [e1]
      exact hs b Q I2 e7 hP2 e2 hF
  · rintro f i ⟨m, I2⟩ hi ⟨hF, hC2, Q, hX, e0, hP2, hc⟩ hk
    replace hF : FC I I2 := hF
    have g75 : I2 75 i = nI (gN M i) := hC2 i hi
    obtain ⟨x1, x2⟩ := hok _ (gN_m hi)
    show wX8_withChain_137 _ _ _ _ _ _ _ _ _ _
    rw [wX8_withChain_137]
    simp (disch := omega) only [g75, pk_div, pk_sub, fa_lit, nI_ltI, nI_leI, nI_eq, nI_add, pk_mul, nI_clamp, vp_in_nI, l_uk, l_n1, l_n1e, l_n1e2, l_n1l, l_n1l2, l_n1l3, not_true_eq_false, not_false_eq_true, true_implies, false_implies, true_and, and_true, and_self, forall_eq, bI_t, bI_f, Bool.false_eq_true, or_true, true_or, or_false, false_or, s1_ltx, if_true, if_false, Nat.add_zero, Nat.zero_add,  d_leF, d_leT, d_ltF, d_ltT, d_eqF, d_eqT]
    rcases hc with ⟨e1, e2, e3⟩ | ⟨b, e1, e2, e4, e5, e6, e7⟩
    · have e1 : m = N1 := e1
      rw [e1]
      refine m_place_full e2 ?_
      have hF3 : FP I2 (q_u2 I2 51 32 (nI 1)) := ⟨fun b x _ => nr_u2 x, fun j _ y => q_u2_j _ _ _ y⟩
      have hP3 : Pm (q_u2 I2 51 32 (nI 1)) Q := ⟨by rw [q_u2_j _ _ _ (by omega)]; exact hP2.1, fun n hn => by simp (disch := omega) only [nr_u2]; exact hP2.2 n hn⟩
      exact hk (N1, q_u2 I2 51 32 (nI 1)) ⟨hF.tr hF3.fc, hC2.fp hF3, Q, hX, e0, hP3, Or.inl ⟨rfl, (show q_u2 I2 51 32 (nI 1) 51 32 = nI 1 from q_u2_s _ _ _ _), e3⟩⟩
    · have e1 : m = nI b := e1
      rw [e1]
      have a1 : gN M i / 200 - gN M i / 200 / 6 * 6 = gN M i / 200 % 6 := by omega
      have a2 : gN M i - gN M i / 200 * 200 = gN M i % 200 := by omega
      rw [a1, a2]
      have hq : nW T Q Q.length (fq b (gN M i) w) := by
        rw [← e6]
        exact fq_w e0 e5 (by rw [e6]; exact x1) x2
      rw [gN_d hi, chn] at e7
      refine m_place (q := fq b (gN M i) w) (hF.tm hT) hwT hP2 e0 hq e2 (fun c Q2 I3 em hP3 h3 hF3 => ?_) (fun em => ?_)
      · obtain ⟨m1, m2, m3, m4, -⟩ := mk_ok e0 e4 hq em
        have mw := mk_w e0 e4 hq em
        rw [em] at e7
        exact hk (nI c, I3) ⟨hF.tr hF3.fc, hC2.fp hF3, Q2, hX.tr m3, m1, hP3, Or.inr ⟨c, rfl, h3, m2, m4, mw, e7⟩⟩
      · rw [em] at e7
        have hF3 : FP I2 (q_u2 I2 51 32 (nI 1)) := ⟨fun b x _ => nr_u2 x, fun j _ y => q_u2_j _ _ _ y⟩
        have hP3 : Pm (q_u2 I2 51 32 (nI 1)) Q := ⟨by rw [q_u2_j _ _ _ (by omega)]; exact hP2.1, fun n hn => by simp (disch := omega) only [nr_u2]; exact hP2.2 n hn⟩
        exact hk (N1, q_u2 I2 51 32 (nI 1)) ⟨hF.tr hF3.fc, hC2.fp hF3, Q, hX, e0, hP3, Or.inl ⟨rfl, (show q_u2 I2 51 32 (nI 1) 51 32 = nI 1 from q_u2_s _ _ _ _), e7⟩⟩
/-- full: nothing is built any more -/
theorem m_withChain_137_full {M : List Nat} {a1 a2 a3 : Int32} {post : Int32 → QI → Prop} (hP : Pm I P) (hM : M.length ≤ 23) (hC : Ch I M) (h32 : I 51 32 = nI 1) (hn : ∀ I2, Pm I2 P → I2 51 32 = nI 1 → FC I I2 → post N1 I2) : ∃ f, wX8_withChain_137 S a1 a2 a3 post f (nI M.length) N1 0 I := by
  refine lp (fun f i (s : QI) => wX8_withChain_137 S a1 a2 a3 post f (nI M.length) N1 (nI i) s) (fun i s => FC I s ∧ Ch s M ∧ Pm s P ∧ s 51 32 = nI 1) M.length ?_ ?_ 0 I (Nat.zero_le _) ⟨FC.rf _, hC, hP, h32⟩
  · rintro f I2 ⟨hF, hC2, hP2, e2⟩
    show wX8_withChain_137 _ _ _ _ _ _ _ _ _ _
    rw [wX8_withChain_137]
    simp (disch := omega) only [fa_lit, nI_ltI, nI_leI, nI_eq, nI_add, pk_mul, nI_clamp, vp_in_nI, l_uk, l_n1, l_n1e, l_n1e2, l_n1l, l_n1l2, l_n1l3, not_true_eq_false, not_false_eq_true, true_implies, false_implies, true_and, and_true, and_self, forall_eq, bI_t, bI_f, Bool.false_eq_true, or_true, true_or, or_false, false_or, s1_ltx, if_true, if_false, Nat.add_zero, Nat.zero_add,  d_leF, d_leT, d_ltF, d_ltT, d_eqF, d_eqT]
    exact hn I2 hP2 e2 hF
  · rintro f i I2 hi ⟨hF, hC2, hP2, e2⟩ hk
    replace hF : FC I I2 := hF
    show wX8_withChain_137 _ _ _ _ _ _ _ _ _ _
    rw [wX8_withChain_137]
    simp (disch := omega) only [fa_lit, nI_ltI, nI_leI, nI_eq, nI_add, pk_mul, nI_clamp, vp_in_nI, l_uk, l_n1, l_n1e, l_n1e2, l_n1l, l_n1l2, l_n1l3, not_true_eq_false, not_false_eq_true, true_implies, false_implies, true_and, and_true, and_self, forall_eq, bI_t, bI_f, Bool.false_eq_true, or_true, true_or, or_false, false_or, s1_ltx, if_true, if_false, Nat.add_zero, Nat.zero_add,  d_leF, d_leT, d_ltF, d_ltT, d_eqF, d_eqT]
    refine m_place_full e2 ?_
    have hF3 : FP I2 (q_u2 I2 51 32 (nI 1)) := ⟨fun b x _ => nr_u2 x, fun j _ y => q_u2_j _ _ _ y⟩
    have hP3 : Pm (q_u2 I2 51 32 (nI 1)) P := ⟨by rw [q_u2_j _ _ _ (by omega)]; exact hP2.1, fun n hn => by simp (disch := omega) only [nr_u2]; exact hP2.2 n hn⟩
    exact hk (q_u2 I2 51 32 (nI 1)) ⟨hF.tr hF3.fc, hC2.fp hF3, hP3, (show q_u2 I2 51 32 (nI 1) 51 32 = nI 1 from q_u2_s _ _ _ _)⟩
variable {C : List (List Nat)} {u v : Nat} {PS : List Pr}
theorem m_withChain_full {n r : Nat} {L : List Nat} {post : Int32 → QI → Prop} (hw : Pw T P) (hP : Pm I P) (hn : n < P.length) (hA : AT S I (C, u, PS, v)) (hr : r ≤ C.length) (eL : lcn C r = L) (hL : L.length ≤ 23) (h32 : I 51 32 = nI 1) (h : ∀ I2, Pm I2 P → I2 51 32 = nI 1 → FC I I2 → post N1 I2) : wX8_withChain N1 (sB r) (nI n) S I post := by
  unfold wX8_withChain
  refine ⟨L.length + 1, m_withChain_9 (g := 0) (D := []) hw hn L hA hP hr eL (by omega) (fun j hj => absurd hj (Nat.not_lt_zero j)) (by simpa using hL) (fun x hx => by cases hx) (fun I2 hF hP2 e2 hC => ?_)⟩
  refine m_withChain_137_full hP2 ?_ hC (e2.trans h32) (fun I3 hP3 e3 hF3 => h I3 hP3 e3 (hF.tr hF3))
  rw [dsc_l, List.nil_append]
  exact Nat.le_trans (stl_len _ _) hL
theorem m_withChain {n a r : Nat} {L : List Nat} {post : Int32 → QI → Prop} (hT : Tm I T) (hwT : Tw T) (hP : Pm I P) (hw : Pw T P) (hd : Pd P) (hn : n < P.length) (hb : ¬ ((nd P n).1 = 4 ∧ (nd P n).2.2.2.1 = 0)) (ha : a < P.length) (ew : (nd P a).2.2.2.2.2.2 = (nd P n).2.2.2.2.2.2) (hok : okL (nd P n).2.2.2.2.2.2 L) (hA : AT S I (C, u, PS, v)) (hr : r ≤ C.length) (eL : lcn C r = L) (hL : L.length ≤ 23) (h32 : I 51 32 = nI 0) (hs : ∀ b P2 I2, chn (nd P n).2.2.2.2.2.2 P a (dsc (L.drop (fre P n L))) = some (b, P2) → Pm I2 P2 → I2 51 32 = nI 0 → FC I I2 → post (nI b) I2) (hN : ∀ P2 I2, chn (nd P n).2.2.2.2.2.2 P a (dsc (L.drop (fre P n L))) = none → XP P P2 → Pw T P2 → Pm I2 P2 → I2 51 32 = nI 1 → FC I I2 → post N1 I2) : wX8_withChain (nI a) (sB r) (nI n) S I post := by
  have e := stl_fre hw hn hb hok
  unfold wX8_withChain
  refine ⟨L.length + 1, m_withChain_9 (g := 0) (D := []) hw hn L hA hP hr eL (by omega) (fun j hj => absurd hj (Nat.not_lt_zero j)) (by simpa using hL) (fun x hx => by cases hx) (fun I2 hF hP2 e2 hC => ?_)⟩
  rw [List.nil_append, e] at hC ⊢
  refine m_withChain_137 (hF.tm hT) hwT hP2 hw hd ha ew ?_ (fun x hx => hok x (List.mem_of_mem_drop (dsc_mem.1 hx))) hC (e2.trans h32) (fun b P3 I3 em hP3 e3 hF3 => hs b P3 I3 em hP3 e3 (hF.tr hF3)) (fun P3 I3 em hX hl hP3 e3 hF3 => hN P3 I3 em hX hl hP3 e3 (hF.tr hF3))
  rw [dsc_l, List.length_drop]
  omega
end CH
