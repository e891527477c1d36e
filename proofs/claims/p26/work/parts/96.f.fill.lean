/-! pure: the class fills groups and bags; a node from its parts -/
def bet (k : Nat) (t b : Int32) : Bool := if k = 3 then decide (¬ b ≤ t) else decide (¬ t ≤ b)
theorem p_isBetter {I : QI} {k : Nat} {t b : Int32} {post : Int32 → Prop} (hk : k < 6) (h : post (bI (bet k t b))) : wX0_isBetter (nI k) t b I post := by
  unfold bet at h
  unfold wX0_isBetter
  by_cases e : k = 3
  · subst e
    simp (disch := omega) only [fa_lit, nI_ltI, nI_leI, nI_eq, nI_add, pk_mul, nI_clamp, vp_in_nI, l_uk, l_n1, l_n1e, l_n1e2, l_n1l, l_n1l2, l_n1l3, not_true_eq_false, not_false_eq_true, true_implies, false_implies, true_and, and_true, and_self, forall_eq, bI_t, bI_f, Bool.false_eq_true, or_true, true_or, or_false, false_or, s1_ltx, if_true, if_false, Nat.add_zero, Nat.zero_add,  d_leF, d_leT, d_ltF, d_ltT, d_eqF, d_eqT]
    refine ⟨fun e => ?_, fun e => ?_⟩
    · simpa [e, bI_t, bI_f] using h
    · simpa [e, bI_t, bI_f] using h
  · rw [if_neg e] at h
    simp (disch := omega) only [fa_lit, nI_ltI, nI_leI, nI_eq, nI_add, pk_mul, nI_clamp, vp_in_nI, l_uk, l_n1, l_n1e, l_n1e2, l_n1l, l_n1l2, l_n1l3, not_true_eq_false, not_false_eq_true, true_implies, false_implies, true_and, and_true, and_self, forall_eq, bI_t, bI_f, Bool.false_eq_true, or_true, true_or, or_false, false_or, s1_ltx, if_true, if_false, Nat.add_zero, Nat.zero_add,  d_leF, d_leT, d_ltF, d_ltT, d_eqF, d_eqT]
    refine ⟨fun e2 => ?_, fun e2 => ?_⟩
    · simpa [e2, bI_t, bI_f] using h
    · simpa [e2, bI_t, bI_f] using h
def smS (k c d : Nat) (x : Int32) (X : List Int32) (s : Nat × Int32 × Nat × Int32) : Nat × Int32 × Nat × Int32 :=
  if X.getD c UK = x then (if X.getD d UK = UK then (s.1, s.2.1, s.2.2.1 + 1, s.2.2.2) else (s.1 + 1, s.2.1 + X.getD d UK, s.2.2.1 + 1, if s.1 = 0 ∨ bet k (X.getD d UK) s.2.2.2 = true then X.getD d UK else s.2.2.2)) else s
def smN (k c d : Nat) (A : List (List Int32)) (x : Int32) : Nat → Nat × Int32 × Nat × Int32
  | 0 => (0, 0, 0, UK)
  | i + 1 => smS k c d x (A.getD i []) (smN k c d A x i)
def clp (z : Int32) : Int32 := if (-99) < (if z < 99 then z else 99) then (if z < 99 then z else 99) else (-99)
def smR (k : Nat) (s : Nat × Int32 × Nat × Int32) : Int32 := if k = 0 then nI s.2.2.1 else if k = 1 then nI s.1 else if k = 2 then (if s.1 = 0 then UK else clp s.2.1) else s.2.2.2
theorem smN_le (k c d : Nat) (A : List (List Int32)) (x : Int32) : ∀ i, (smN k c d A x i).1 ≤ i
  | 0 => Nat.le_refl 0
  | i + 1 => by
    have := smN_le k c d A x i
    rw [smN, smS]
    split
    · split
      · exact Nat.le_succ_of_le this
      · exact Nat.succ_le_succ this
    · exact Nat.le_succ_of_le this
theorem p_summary {I : QI} {T : QT} {P : List Nd} (hP : Pc I P) (hw : Pw T P) {n d w : Nat} {x : Int32} {A : List (List Int32)} (hn : n < P.length) (ha : (nd P n).2.1 < n) (hA : Hd I (nd P n).2.1 A w) (hw6 : w ≤ 6) (hc : (nd P n).2.2.2.2.1 < w) (hd : d < w) (hde : (nd P n).2.2.2.2.2.1 = nI d) (hk2 : (nd P n).2.2.2.1 < 5) {post : Int32 → Prop} (h : post (smR (nd P n).2.2.2.1 (smN (nd P n).2.2.2.1 (nd P n).2.2.2.2.1 d A x A.length))) : wX0_summary (nI n) x I post := by
  have h24 := hw.1
  have hA2 := hA.2.1
  unfold wX0_summary
  refine p_firstOf hP hw hn (p_kindOf hP hw hn (p_columnOf hP hw hn (p_extraOf hP hw hn (p_countOf (by omega) ?_))))
  rw [hA.1, hde]
  generalize (nd P n).2.2.2.1 = k at *
  generalize (nd P n).2.2.2.2.1 = c at *
  have hK : ∃ K : Int32 → Int32 → Int32 → Int32 → Int32 → Prop, K = (fun u21 u22 u23 u24 u25 => ((u21 = 0 → post u24) ∧ (u21 = 1 → post u22) ∧ (u21 = 2 → ((¬ u22 = 0 → post (if (-99) < (if u23 < 99 then u23 else 99) then (if u23 < 99 then u23 else 99) else (-99))) ∧ (u22 = 0 → post (-1000)))) ∧ (¬ u21 = 0 → ¬ u21 = 1 → ¬ u21 = 2 → post u25))) := ⟨_, rfl⟩
  obtain ⟨K, eK⟩ := hK
  have hKt : ∀ s : Nat × Int32 × Nat × Int32, s.1 ≤ 200 → post (smR k s) → K (nI k) (nI s.1) s.2.1 (nI s.2.2.1) s.2.2.2 := by
    intro s hs hp
    rw [eK]
    unfold smR at hp
    refine ⟨fun e => ?_, fun e => ?_, fun e => ⟨fun e2 => ?_, fun e2 => ?_⟩, fun e e2 e3 => ?_⟩
    · have e5 : nI k = nI 0 := e
      rw [nI_eq (by omega) (by omega)] at e5
      rwa [if_pos e5] at hp
    · have e5 : nI k = nI 1 := e
      rw [nI_eq (by omega) (by omega)] at e5
      rwa [if_neg (by omega), if_pos e5] at hp
    · have e5 : nI k = nI 2 := e
      rw [nI_eq (by omega) (by omega)] at e5
      rw [if_neg (by omega), if_neg (by omega), if_pos e5, if_neg (fun z => e2 (by rw [z]; rfl))] at hp
      exact hp
    · have e5 : nI k = nI 2 := e
      rw [nI_eq (by omega) (by omega)] at e5
      have e6 : nI s.1 = nI 0 := e2
      rw [nI_eq (by omega) (by omega)] at e6
      rw [if_neg (by omega), if_neg (by omega), if_pos e5, if_pos e6] at hp
      exact hp
    · rwa [if_neg (fun z => e (by rw [z]; rfl)), if_neg (fun z => e2 (by rw [z]; rfl)), if_neg (fun z => e3 (by rw [z]; rfl))] at hp
  rw [← eK]
  refine lp (fun f i (s : Nat × Int32 × Nat × Int32) => wX0_summary_63 (nI n) x I K post f (nI (nd P n).2.1) (nI k) (nI c) (nI d) (nI A.length) (nI s.1) s.2.1 (nI s.2.2.1) s.2.2.2 (nI i)) (fun i s => s = smN k c d A x i) A.length ?_ ?_ 0 (0, 0, 0, UK) (Nat.zero_le _) rfl
  · intro f s hs
    subst hs
    have hs2 := smN_le k c d A x A.length
    have := hKt _ (by omega) h
    show wX0_summary_63 _ _ _ _ _ _ _ _ _ _ _ _ _ _ _ _
    rw [wX0_summary_63]
    simp (disch := omega) only [fa_lit, nI_ltI, nI_leI, nI_eq, nI_add, pk_mul, nI_clamp, vp_in_nI, l_uk, l_n1, l_n1e, l_n1e2, l_n1l, l_n1l2, l_n1l3, not_true_eq_false, not_false_eq_true, true_implies, false_implies, true_and, and_true, and_self, forall_eq, bI_t, bI_f, Bool.false_eq_true, or_true, true_or, or_false, false_or, s1_ltx, if_true, if_false, Nat.add_zero, Nat.zero_add,  d_leF, d_leT, d_ltF, d_ltT, d_eqF, d_eqT]
    exact this
  · intro f i s hi hs hk
    have hs2 := smN_le k c d A x i
    rw [← hs] at hs2
    have hk' : ∀ s', s' = smS k c d x (A.getD i []) s → wX0_summary_63 (nI n) x I K post f (nI (nd P n).2.1) (nI k) (nI c) (nI d) (nI A.length) (nI s'.1) s'.2.1 (nI s'.2.2.1) s'.2.2.2 (nI (i + 1)) := fun s' e => hk s' (by rw [e, hs]; rfl)
    unfold smS at hk'
    show wX0_summary_63 _ _ _ _ _ _ _ _ _ _ _ _ _ _ _ _
    rw [wX0_summary_63]
    simp (disch := omega) only [fa_lit, nI_ltI, nI_leI, nI_eq, nI_add, pk_mul, nI_clamp, vp_in_nI, l_uk, l_n1, l_n1e, l_n1e2, l_n1l, l_n1l2, l_n1l3, not_true_eq_false, not_false_eq_true, true_implies, false_implies, true_and, and_true, and_self, forall_eq, bI_t, bI_f, Bool.false_eq_true, or_true, true_or, or_false, false_or, s1_ltx, if_true, if_false, Nat.add_zero, Nat.zero_add,  d_leF, d_leT, d_ltF, d_ltT, d_eqF, d_eqT]
    refine p_valueAt (by omega) hA hi hc hw6 ?_
    refine ⟨fun e => ?_, fun e => ?_⟩
    · rw [if_pos e] at hk'
      refine p_valueAt (by omega) hA hi hd hw6 ?_
      refine ⟨fun e2 => ?_, fun e2 => ?_⟩
      · rw [if_neg e2] at hk'
        refine ⟨fun e3 => ?_, fun e3 => ?_⟩
        · rw [if_pos (Or.inl e3)] at hk'
          exact hk' _ rfl
        · refine p_isBetter (by omega) ?_
          have e4 : ¬ s.1 = 0 := fun z => e3 (by rw [z])
          cases e5 : bet k ((A.getD i []).getD d UK) s.2.2.2
          · rw [if_neg (fun z => z.elim e4 (fun z2 => by rw [e5] at z2; cases z2))] at hk'
            simp (disch := omega) only [fa_lit, nI_ltI, nI_leI, nI_eq, nI_add, pk_mul, nI_clamp, vp_in_nI, l_uk, l_n1, l_n1e, l_n1e2, l_n1l, l_n1l2, l_n1l3, not_true_eq_false, not_false_eq_true, true_implies, false_implies, true_and, and_true, and_self, forall_eq, bI_t, bI_f, Bool.false_eq_true, or_true, true_or, or_false, false_or, s1_ltx, if_true, if_false, Nat.add_zero, Nat.zero_add,  d_leF, d_leT, d_ltF, d_ltT, d_eqF, d_eqT]
            exact hk' _ rfl
          · rw [if_pos (Or.inr e5)] at hk'
            simp (disch := omega) only [fa_lit, nI_ltI, nI_leI, nI_eq, nI_add, pk_mul, nI_clamp, vp_in_nI, l_uk, l_n1, l_n1e, l_n1e2, l_n1l, l_n1l2, l_n1l3, not_true_eq_false, not_false_eq_true, true_implies, false_implies, true_and, and_true, and_self, forall_eq, bI_t, bI_f, Bool.false_eq_true, or_true, true_or, or_false, false_or, s1_ltx, if_true, if_false, Nat.add_zero, Nat.zero_add,  d_leF, d_leT, d_ltF, d_ltT, d_eqF, d_eqT]
            exact hk' _ rfl
      · rw [if_pos e2] at hk'
        exact hk' _ rfl
    · rw [if_neg e] at hk'
      exact hk' _ rfl
def gpN (k c d : Nat) (A : List (List Int32)) : Nat → List (List Int32)
  | 0 => []
  | i + 1 => if frw (gpN k c d A i) 0 ((A.getD i []).getD c UK) = none then gpN k c d A i ++ [[(A.getD i []).getD c UK, smR k (smN k c d A ((A.getD i []).getD c UK) A.length)]] else gpN k c d A i
theorem gpN_le (k c d : Nat) (A : List (List Int32)) : ∀ i, (gpN k c d A i).length ≤ i
  | 0 => Nat.le_refl 0
  | i + 1 => by
    have := gpN_le k c d A i
    rw [gpN]
    split
    · rw [List.length_append]
      show _ + 1 ≤ _
      omega
    · omega
theorem p_fillGroup {I : QI} {T : QT} {P : List Nd} (hP : Pc I P) (hw : Pw T P) {n d w : Nat} {A : List (List Int32)} (hn : n < P.length) (ha : (nd P n).2.1 < n) (hA : Hd I (nd P n).2.1 A w) (hw6 : w ≤ 6) (hc : (nd P n).2.2.2.2.1 < w) (hd : d < w) (hde : (nd P n).2.2.2.2.2.1 = nI d) (hk2 : (nd P n).2.2.2.1 < 5) (hR : Hd I n [] 2) {post : Int32 → QI → Prop} (h : ∀ I2, FA n I I2 → Hd I2 n (gpN (nd P n).2.2.2.1 (nd P n).2.2.2.2.1 d A A.length) 2 → post (nI 1) I2) : wX0_fillGroup (nI n) I post := by
  have h24 := hw.1
  have hA2 := hA.2.1
  unfold wX0_fillGroup
  refine p_firstOf hP hw hn ?_
  refine lp (fun f i (I2 : QI) => wX0_fillGroup_11 (nI n) post f (nI (nd P n).2.1) (nI i) I2) (fun i I2 => FA n I I2 ∧ Hd I2 n (gpN (nd P n).2.2.2.1 (nd P n).2.2.2.2.1 d A i) 2) A.length ?_ ?_ 0 I (Nat.zero_le _) ⟨FA.rf _ _, hR⟩
  · rintro f I2 ⟨hF, hH⟩
    show wX0_fillGroup_11 _ _ _ _ _ _
    rw [wX0_fillGroup_11]
    refine p_countOf (by omega) ?_
    rw [(hA.fa hF (by omega) hw6).1]
    simp (disch := omega) only [fa_lit, nI_ltI, nI_leI, nI_eq, nI_add, pk_mul, nI_clamp, vp_in_nI, l_uk, l_n1, l_n1e, l_n1e2, l_n1l, l_n1l2, l_n1l3, not_true_eq_false, not_false_eq_true, true_implies, false_implies, true_and, and_true, and_self, forall_eq, bI_t, bI_f, Bool.false_eq_true, or_true, true_or, or_false, false_or, s1_ltx, if_true, if_false, Nat.add_zero, Nat.zero_add,  d_leF, d_leT, d_ltF, d_ltT, d_eqF, d_eqT]
    exact h I2 hF hH
  · rintro f i I2 hi ⟨hF, hH⟩ hk
    have hA3 := hA.fa hF (by omega) hw6
    have hP2 := hF.pc hP
    have hl := gpN_le (nd P n).2.2.2.1 (nd P n).2.2.2.2.1 d A i
    show wX0_fillGroup_11 _ _ _ _ _ _
    rw [wX0_fillGroup_11]
    refine p_countOf (by omega) ?_
    rw [hA3.1]
    simp (disch := omega) only [fa_lit, nI_ltI, nI_leI, nI_eq, nI_add, pk_mul, nI_clamp, vp_in_nI, l_uk, l_n1, l_n1e, l_n1e2, l_n1l, l_n1l2, l_n1l3, not_true_eq_false, not_false_eq_true, true_implies, false_implies, true_and, and_true, and_self, forall_eq, bI_t, bI_f, Bool.false_eq_true, or_true, true_or, or_false, false_or, s1_ltx, if_true, if_false, Nat.add_zero, Nat.zero_add,  d_leF, d_leT, d_ltF, d_ltT, d_eqF, d_eqT]
    refine p_columnOf hP2 hw hn ?_
    refine p_valueAt (by omega) hA3 hi hc hw6 ?_
    refine p_findRow (c := 0) (by omega) hH (by omega) (by omega) (fun j hj e => ?_) (fun e => ?_)
    · have := hH.2.1
      simp (disch := omega) only [fa_lit, nI_ltI, nI_leI, nI_eq, nI_add, pk_mul, nI_clamp, vp_in_nI, l_uk, l_n1, l_n1e, l_n1e2, l_n1l, l_n1l2, l_n1l3, not_true_eq_false, not_false_eq_true, true_implies, false_implies, true_and, and_true, and_self, forall_eq, bI_t, bI_f, Bool.false_eq_true, or_true, true_or, or_false, false_or, s1_ltx, if_true, if_false, Nat.add_zero, Nat.zero_add,  d_leF, d_leT, d_ltF, d_ltT, d_eqF, d_eqT]
      refine hk I2 ⟨hF, ?_⟩
      rw [gpN, if_neg (by rw [e]; simp)]
      exact hH
    · simp (disch := omega) only [fa_lit, nI_ltI, nI_leI, nI_eq, nI_add, pk_mul, nI_clamp, vp_in_nI, l_uk, l_n1, l_n1e, l_n1e2, l_n1l, l_n1l2, l_n1l3, not_true_eq_false, not_false_eq_true, true_implies, false_implies, true_and, and_true, and_self, forall_eq, bI_t, bI_f, Bool.false_eq_true, or_true, true_or, or_false, false_or, s1_ltx, if_true, if_false, Nat.add_zero, Nat.zero_add,  d_leF, d_leT, d_ltF, d_ltT, d_eqF, d_eqT]
      refine p_newRow (by omega) hH (fun hl2 => ?_) (fun hl2 => by omega)
      have hW0 := Wr.z (q_u2 I2 25 n (nI ((gpN (nd P n).2.2.2.1 (nd P n).2.2.2.2.1 d A i).length + 1))) (n * 1200 + (gpN (nd P n).2.2.2.1 (nd P n).2.2.2.2.1 d A i).length * 6) (fun c => if c = 0 then (A.getD i []).getD (nd P n).2.2.2.2.1 UK else smR (nd P n).2.2.2.1 (smN (nd P n).2.2.2.1 (nd P n).2.2.2.2.1 d A ((A.getD i []).getD (nd P n).2.2.2.2.1 UK) A.length))
      have hW1 := hW0.s
      have hW2 := hW1.s
      refine p_put (c := 0) (by omega) hl2 (by omega) ?_
      have hP3 : Pc (q_u2 (q_u2 I2 25 n (nI ((gpN (nd P n).2.2.2.1 (nd P n).2.2.2.2.1 d A i).length + 1))) 24 (n * 1200 + (gpN (nd P n).2.2.2.1 (nd P n).2.2.2.2.1 d A i).length * 6 + 0) ((A.getD i []).getD (nd P n).2.2.2.2.1 UK)) P := Pc_fr hP2 (fun b h1 h2 => by rw [nr_u2 (by omega), nr_u2 (by omega)])
      have hA4 : Hd (q_u2 I2 25 n (nI ((gpN (nd P n).2.2.2.1 (nd P n).2.2.2.2.1 d A i).length + 1))) (nd P n).2.1 A w := ⟨(q_u2_j _ _ _ (by omega)).trans hA3.1, hA3.2.1, by rw [nr_u2 (show (24 : Nat) ≠ 25 by omega)]; exact hA3.2.2⟩
      have e0 : (gpN (nd P n).2.2.2.1 (nd P n).2.2.2.2.1 d A i).length * 6 + (0 + 1) ≤ 1200 := by omega
      have hA5 := hW1.rd (n := n) hA4 (by omega) hw6 (Nat.le_add_right _ _) (by rw [Nat.add_assoc]; exact Nat.add_le_add_left e0 _)
      refine p_summary hP3 hw hn ha hA5 hw6 hc hd hde hk2 ?_
      refine p_put (c := 1) (by omega) hl2 (by omega) ?_
      obtain ⟨x, y, z⟩ := hH.put (by omega) hl2 hW2
      refine hk _ ⟨hF.tr x, ?_⟩
      rw [gpN, if_pos e]
      exact z
def fil (T : QT) (q : Nd) (wb : Nat) (A B : List (List Int32)) : List (List Int32) :=
  if q.1 = 0 then flS T q.2.1 (T.2.2.1 q.2.1)
  else if q.1 = 1 then flF q.2.2.2.1 q.2.2.2.2.1 q.2.2.2.2.2.1 A A.length
  else if q.1 = 2 then (if q.2.2.2.1 < 2 then flJ q.2.2.2.1 q.2.2.2.2.1 q.2.2.2.2.2.1.toNatClampNeg wb A B A.length else flT q.2.2.2.1 q.2.2.2.2.1 q.2.2.2.2.2.1.toNatClampNeg A B A.length)
  else if q.1 = 3 then gpN q.2.2.2.1 q.2.2.2.2.1 q.2.2.2.2.2.1.toNatClampNeg A A.length
  else if q.2.2.2.1 = 0 then A ++ B
  else if q.2.2.2.1 = 3 then ddN (ddN [] A A.length) B B.length
  else kp A (tkm A B B.length) (decide (q.2.2.2.1 = 2)) A.length
theorem p_fillBag {I : QI} {T : QT} {P : List Nd} (hP : Pc I P) (hw : Pw T P) {n w : Nat} {A B : List (List Int32)} (hJ : Jn I P n w w A B) (hwn : (nd P n).2.2.2.2.2.2 = w) (hw6 : w ≤ 6) (hk4 : (nd P n).2.2.2.1 < 4) (hR : Hd I n [] w) (h4 : (nd P n).1 = 4) {wb : Nat} {post : Int32 → QI → Prop} (h : ∀ I2, FA n I I2 → Hd I2 n (fil T (nd P n) wb A B) w → post (nI 1) I2) (h2 : 200 < (fil T (nd P n) wb A B).length → ∀ I2, FA n I I2 → post (nI 0) I2) : wX0_fillBag (nI n) I post := by
  have h24 := hw.1
  have hJ0 := hJ
  obtain ⟨hn, ha, hb0, hb, hA, hB, hwa, hwb⟩ := hJ
  unfold fil at h h2
  rw [if_neg (by omega), if_neg (by omega), if_neg (by omega), if_neg (by omega)] at h h2
  unfold wX0_fillBag
  refine p_firstOf hP hw hn (p_secondOf hP hw hn (p_kindOf hP hw hn ?_))
  have e9 : sB (nd P n).2.2.1 = nI ((nd P n).2.2.1 - 1) := if_neg hb0
  rw [e9]
  refine ⟨fun e => ?_, fun e => ?_, fun e e2 => ?_⟩
  · have e5 : nI (nd P n).2.2.2.1 = nI 0 := e
    rw [nI_eq (by omega) (by omega)] at e5
    rw [if_pos e5] at h h2
    refine p_copyAll hP hw (by omega) (by omega) (by omega) hA hwa hw6 hR (fun I2 hF hH => ?_) (fun hl => ?_)
    · simp (disch := omega) only [fa_lit, nI_ltI, nI_leI, nI_eq, nI_add, pk_mul, nI_clamp, vp_in_nI, l_uk, l_n1, l_n1e, l_n1e2, l_n1l, l_n1l2, l_n1l3, not_true_eq_false, not_false_eq_true, true_implies, false_implies, true_and, and_true, and_self, forall_eq, bI_t, bI_f, Bool.false_eq_true, or_true, true_or, or_false, false_or, s1_ltx, if_true, if_false, Nat.add_zero, Nat.zero_add,  d_leF, d_leT, d_ltF, d_ltT, d_eqF, d_eqT]
      refine p_copyAll (hF.pc hP) hw (by omega) (by omega) (by omega) (hB.fa hF (by omega) hw6) hwb hw6 hH (fun I3 hF3 hH3 => ?_) (fun hl I3 hF3 => ?_)
      · simp (disch := omega) only [fa_lit, nI_ltI, nI_leI, nI_eq, nI_add, pk_mul, nI_clamp, vp_in_nI, l_uk, l_n1, l_n1e, l_n1e2, l_n1l, l_n1l2, l_n1l3, not_true_eq_false, not_false_eq_true, true_implies, false_implies, true_and, and_true, and_self, forall_eq, bI_t, bI_f, Bool.false_eq_true, or_true, true_or, or_false, false_or, s1_ltx, if_true, if_false, Nat.add_zero, Nat.zero_add,  d_leF, d_leT, d_ltF, d_ltT, d_eqF, d_eqT]
        exact h I3 (hF.tr hF3) hH3
      · simp (disch := omega) only [fa_lit, nI_ltI, nI_leI, nI_eq, nI_add, pk_mul, nI_clamp, vp_in_nI, l_uk, l_n1, l_n1e, l_n1e2, l_n1l, l_n1l2, l_n1l3, not_true_eq_false, not_false_eq_true, true_implies, false_implies, true_and, and_true, and_self, forall_eq, bI_t, bI_f, Bool.false_eq_true, or_true, true_or, or_false, false_or, s1_ltx, if_true, if_false, Nat.add_zero, Nat.zero_add,  d_leF, d_leT, d_ltF, d_ltT, d_eqF, d_eqT]
        rw [List.nil_append] at hl
        exact h2 (by rw [List.length_append]; exact hl) I3 (hF.tr hF3)
    · have := hA.2.1
      have e6 : 200 < 0 + A.length := hl
      omega
  · have e5 : nI (nd P n).2.2.2.1 = nI 3 := e
    rw [nI_eq (by omega) (by omega)] at e5
    rw [if_neg (by omega), if_pos e5] at h h2
    have hdl : ∀ i, (ddN [] A i).length ≤ i := by
      intro i
      induction i with
      | zero => exact Nat.le_refl 0
      | succ i ih =>
        rw [ddN]
        split
        · omega
        · rw [List.length_append]
          show _ + 1 ≤ _
          omega
    refine p_copyNew hP hw (by omega) (by omega) (by omega) hA hwa hwn hw6 hR (fun I2 hF hH => ?_) (fun hl => ?_)
    · simp (disch := omega) only [fa_lit, nI_ltI, nI_leI, nI_eq, nI_add, pk_mul, nI_clamp, vp_in_nI, l_uk, l_n1, l_n1e, l_n1e2, l_n1l, l_n1l2, l_n1l3, not_true_eq_false, not_false_eq_true, true_implies, false_implies, true_and, and_true, and_self, forall_eq, bI_t, bI_f, Bool.false_eq_true, or_true, true_or, or_false, false_or, s1_ltx, if_true, if_false, Nat.add_zero, Nat.zero_add,  d_leF, d_leT, d_ltF, d_ltT, d_eqF, d_eqT]
      refine p_copyNew (hF.pc hP) hw (by omega) (by omega) (by omega) (hB.fa hF (by omega) hw6) hwb hwn hw6 hH (fun I3 hF3 hH3 => ?_) (fun hl I3 hF3 => ?_)
      · simp (disch := omega) only [fa_lit, nI_ltI, nI_leI, nI_eq, nI_add, pk_mul, nI_clamp, vp_in_nI, l_uk, l_n1, l_n1e, l_n1e2, l_n1l, l_n1l2, l_n1l3, not_true_eq_false, not_false_eq_true, true_implies, false_implies, true_and, and_true, and_self, forall_eq, bI_t, bI_f, Bool.false_eq_true, or_true, true_or, or_false, false_or, s1_ltx, if_true, if_false, Nat.add_zero, Nat.zero_add,  d_leF, d_leT, d_ltF, d_ltT, d_eqF, d_eqT]
        exact h I3 (hF.tr hF3) hH3
      · simp (disch := omega) only [fa_lit, nI_ltI, nI_leI, nI_eq, nI_add, pk_mul, nI_clamp, vp_in_nI, l_uk, l_n1, l_n1e, l_n1e2, l_n1l, l_n1l2, l_n1l3, not_true_eq_false, not_false_eq_true, true_implies, false_implies, true_and, and_true, and_self, forall_eq, bI_t, bI_f, Bool.false_eq_true, or_true, true_or, or_false, false_or, s1_ltx, if_true, if_false, Nat.add_zero, Nat.zero_add,  d_leF, d_leT, d_ltF, d_ltT, d_eqF, d_eqT]
        exact h2 hl I3 (hF.tr hF3)
    · have := hA.2.1
      have := hdl A.length
      omega
  · have e5 : ¬ (nd P n).2.2.2.1 = 0 := fun z => e (by rw [z]; rfl)
    have e6 : ¬ (nd P n).2.2.2.1 = 3 := fun z => e2 (by rw [z]; rfl)
    rw [if_neg e5, if_neg e6] at h h2
    refine p_kindOf hP hw hn ⟨fun e7 => ?_, fun e7 => ?_⟩
    · have e8 : ¬ (nd P n).2.2.2.1 = 2 := fun z => e7 (by rw [z]; rfl)
      rw [decide_eq_false e8] at h
      exact p_copyTaken (tk := false) hP hw hn ha hb0 hb hA hB hwa hwn hw6 hR (fun I2 hF hH => ⟨Or.inr rfl, h I2 hF hH⟩)
    · have e8 : nI (nd P n).2.2.2.1 = nI 2 := e7
      rw [nI_eq (by omega) (by omega)] at e8
      rw [decide_eq_true e8] at h
      exact p_copyTaken (tk := true) hP hw hn ha hb0 hb hA hB hwa hwn hw6 hR (fun I2 hF hH => ⟨Or.inr rfl, h I2 hF hH⟩)
theorem p_fill {I : QI} {T : QT} {P : List Nd} (hT : Tc I T) (hwT : Tw T) (hP : Pc I P) (hw : Pw T P) {n : Nat} {A B : List (List Int32)} (hn : n < P.length) (hA : (nd P n).1 ≠ 0 → Hd I (nd P n).2.1 A (nd P (nd P n).2.1).2.2.2.2.2.2) (hB : (nd P n).2.2.1 ≠ 0 → Hd I ((nd P n).2.2.1 - 1) B (nd P ((nd P n).2.2.1 - 1)).2.2.2.2.2.2) (hR : Hd I n [] (nd P n).2.2.2.2.2.2) {post : Int32 → QI → Prop} (h : ∀ I2, FA n I I2 → Hd I2 n (fil T (nd P n) (nd P ((nd P n).2.2.1 - 1)).2.2.2.2.2.2 A B) (nd P n).2.2.2.2.2.2 → post (nI 1) I2) (h2 : 200 < (fil T (nd P n) (nd P ((nd P n).2.2.1 - 1)).2.2.2.2.2.2 A B).length → ∀ I2, FA n I I2 → post (nI 0) I2) : wX0_fill (nI n) I post := by
  have h24 := hw.1
  obtain ⟨⟨b1, b2, b3, b4, b5, b6, b7⟩, hwd, c0, c1, c2, c3, c4, c5⟩ := hw.2 n hn
  unfold wd at hwd
  unfold wX0_fill
  refine p_typeOf hP hw hn ?_
  rcases (show (nd P n).1 = 0 ∨ (nd P n).1 = 1 ∨ (nd P n).1 = 2 ∨ (nd P n).1 = 3 ∨ (nd P n).1 = 4 by omega) with e | e | e | e | e
  · rw [if_pos e] at hwd
    have ef : ∀ wb, fil T (nd P n) wb A B = flS T (nd P n).2.1 (T.2.2.1 (nd P n).2.1) := fun wb => if_pos e
    rw [ef] at h
    rw [hwd] at hR h
    simp (disch := omega) only [e, fa_lit, nI_ltI, nI_leI, nI_eq, nI_add, pk_mul, nI_clamp, vp_in_nI, l_uk, l_n1, l_n1e, l_n1e2, l_n1l, l_n1l2, l_n1l3, not_true_eq_false, not_false_eq_true, true_implies, false_implies, true_and, and_true, and_self, forall_eq, bI_t, bI_f, Bool.false_eq_true, or_true, true_or, or_false, false_or, s1_ltx, if_true, if_false, Nat.add_zero, Nat.zero_add,  d_leF, d_leT, d_ltF, d_ltT, d_eqF, d_eqT]
    exact p_fillScan hT hwT hP hw hn (c0 e).1 hR (fun I2 hF hH => ⟨Or.inr rfl, h I2 hF hH⟩)
  · rw [if_neg (by omega), if_neg (by omega), if_neg (by omega)] at hwd
    have ef : ∀ wb, fil T (nd P n) wb A B = flF (nd P n).2.2.2.1 (nd P n).2.2.2.2.1 (nd P n).2.2.2.2.2.1 A A.length := fun wb => by unfold fil; rw [if_neg (by omega), if_pos e]
    rw [ef] at h
    simp (disch := omega) only [e, fa_lit, nI_ltI, nI_leI, nI_eq, nI_add, pk_mul, nI_clamp, vp_in_nI, l_uk, l_n1, l_n1e, l_n1e2, l_n1l, l_n1l2, l_n1l3, not_true_eq_false, not_false_eq_true, true_implies, false_implies, true_and, and_true, and_self, forall_eq, bI_t, bI_f, Bool.false_eq_true, or_true, true_or, or_false, false_or, s1_ltx, if_true, if_false, Nat.add_zero, Nat.zero_add,  d_leF, d_leT, d_ltF, d_ltT, d_eqF, d_eqT]
    exact p_fillFilter hP hw hn (c1 (by omega)) b4 (c2 e).2.1 (hA (by omega)) rfl (by omega) (by rw [hwd] at hR; exact hR) (fun I2 hF hH => ⟨Or.inr rfl, h I2 hF (by rw [hwd]; exact hH)⟩)
  · rw [if_neg (by omega), if_neg (by omega)] at hwd
    obtain ⟨d1, d2, d3, d4, d, hde, d6⟩ := c3 e
    have ha := c1 (by omega)
    have hJ : Jn I P n (nd P (nd P n).2.1).2.2.2.2.2.2 (nd P ((nd P n).2.2.1 - 1)).2.2.2.2.2.2 A B := ⟨hn, ha, d1, d2, hA (by omega), hB d1, rfl, rfl⟩
    have wa6 := (hw.2 _ (show (nd P n).2.1 < P.length by omega)).1.2.2.2.2.2.2
    have wb6 := (hw.2 _ (show (nd P n).2.2.1 - 1 < P.length by omega)).1.2.2.2.2.2.2
    have hdc : (nd P n).2.2.2.2.2.1.toNatClampNeg = d := by rw [hde]; exact nI_clamp (by omega)
    by_cases hk : (nd P n).2.2.2.1 < 2
    · rw [if_pos ⟨e, hk⟩] at hwd
      have ef : ∀ wb, fil T (nd P n) wb A B = flJ (nd P n).2.2.2.1 (nd P n).2.2.2.2.1 d wb A B A.length := fun wb => by unfold fil; rw [if_neg (by omega), if_neg (by omega), if_pos e, if_pos hk, hdc]
      rw [ef] at h h2
      rw [hwd] at hR h
      have hS : wX0_fillSideBySide (nI n) I (fun r I2 => (r = 0 ∨ r = 1) ∧ post r I2) := p_fillSideBySide hP hw hJ (by omega) d4 d6 hde b4 hR (fun I2 hF hH => ⟨Or.inr rfl, h I2 hF hH⟩) (fun hl I2 hF => ⟨Or.inl rfl, h2 hl I2 hF⟩)
      simp (disch := omega) only [e, fa_lit, nI_ltI, nI_leI, nI_eq, nI_add, pk_mul, nI_clamp, vp_in_nI, l_uk, l_n1, l_n1e, l_n1e2, l_n1l, l_n1l2, l_n1l3, not_true_eq_false, not_false_eq_true, true_implies, false_implies, true_and, and_true, and_self, forall_eq, bI_t, bI_f, Bool.false_eq_true, or_true, true_or, or_false, false_or, s1_ltx, if_true, if_false, Nat.add_zero, Nat.zero_add,  d_leF, d_leT, d_ltF, d_ltT, d_eqF, d_eqT]
      refine p_kindOf hP hw hn ⟨fun _ => hS, fun _ => p_kindOf hP hw hn ⟨fun e7 => ?_, fun _ => hS⟩⟩
      have e8 : ¬ nI (nd P n).2.2.2.1 = nI 0 := by assumption
      exfalso
      rcases (show (nd P n).2.2.2.1 = 0 ∨ (nd P n).2.2.2.1 = 1 by omega) with z | z
      · exact e8 (by rw [z])
      · exact e7 (by rw [z])
    · rw [if_neg (by omega)] at hwd
      have ef : ∀ wb, fil T (nd P n) wb A B = flT (nd P n).2.2.2.1 (nd P n).2.2.2.2.1 d A B A.length := fun wb => by unfold fil; rw [if_neg (by omega), if_neg (by omega), if_pos e, if_neg hk, hdc]
      rw [ef] at h
      rw [hwd] at hR h
      have hS : wX0_fillStaying (nI n) I (fun r I2 => (r = 0 ∨ r = 1) ∧ post r I2) := p_fillStaying hP hw hJ (by omega) (by omega) d4 d6 hde d3 hR (fun I2 hF hH => ⟨Or.inr rfl, h I2 hF hH⟩)
      simp (disch := omega) only [e, fa_lit, nI_ltI, nI_leI, nI_eq, nI_add, pk_mul, nI_clamp, vp_in_nI, l_uk, l_n1, l_n1e, l_n1e2, l_n1l, l_n1l2, l_n1l3, not_true_eq_false, not_false_eq_true, true_implies, false_implies, true_and, and_true, and_self, forall_eq, bI_t, bI_f, Bool.false_eq_true, or_true, true_or, or_false, false_or, s1_ltx, if_true, if_false, Nat.add_zero, Nat.zero_add,  d_leF, d_leT, d_ltF, d_ltT, d_eqF, d_eqT]
      refine p_kindOf hP hw hn ⟨fun e7 => ?_, fun _ => p_kindOf hP hw hn ⟨fun _ => hS, fun e7 => ?_⟩⟩
      · rw [nI_eq (by omega) (by omega)] at e7
        omega
      · rw [nI_eq (by omega) (by omega)] at e7
        omega
  · rw [if_neg (by omega), if_pos e] at hwd
    obtain ⟨d1, d3, d4, d, hde, d6⟩ := c4 e
    have hdc : (nd P n).2.2.2.2.2.1.toNatClampNeg = d := by rw [hde]; exact nI_clamp (by have := (hw.2 _ (show (nd P n).2.1 < P.length by have := c1 (by omega); omega)).1.2.2.2.2.2.2; omega)
    have ef : ∀ wb, fil T (nd P n) wb A B = gpN (nd P n).2.2.2.1 (nd P n).2.2.2.2.1 d A A.length := fun wb => by unfold fil; rw [if_neg (by omega), if_neg (by omega), if_neg (by omega), if_pos e, hdc]
    rw [ef] at h
    rw [hwd] at hR h
    have wa6 := (hw.2 _ (show (nd P n).2.1 < P.length by have := c1 (by omega); omega)).1.2.2.2.2.2.2
    simp (disch := omega) only [e, fa_lit, nI_ltI, nI_leI, nI_eq, nI_add, pk_mul, nI_clamp, vp_in_nI, l_uk, l_n1, l_n1e, l_n1e2, l_n1l, l_n1l2, l_n1l3, not_true_eq_false, not_false_eq_true, true_implies, false_implies, true_and, and_true, and_self, forall_eq, bI_t, bI_f, Bool.false_eq_true, or_true, true_or, or_false, false_or, s1_ltx, if_true, if_false, Nat.add_zero, Nat.zero_add,  d_leF, d_leT, d_ltF, d_ltT, d_eqF, d_eqT]
    exact p_fillGroup hP hw hn (c1 (by omega)) (hA (by omega)) (by omega) d4 d6 hde d3 hR (fun I2 hF hH => ⟨Or.inr rfl, h I2 hF hH⟩)
  · rw [if_neg (by omega), if_neg (by omega), if_neg (by omega)] at hwd
    obtain ⟨d1, d2, d3, d4, d5, d6⟩ := c5 e
    have hB2 := hB d1
    rw [d6, ← hwd] at hB2
    have hA2 := hA (by omega)
    rw [← hwd] at hA2
    have hJ : Jn I P n (nd P n).2.2.2.2.2.2 (nd P n).2.2.2.2.2.2 A B := ⟨hn, c1 (by omega), d1, d2, hA2, hB2, hwd.symm, by rw [d6, hwd]⟩
    simp (disch := omega) only [e, fa_lit, nI_ltI, nI_leI, nI_eq, nI_add, pk_mul, nI_clamp, vp_in_nI, l_uk, l_n1, l_n1e, l_n1e2, l_n1l, l_n1l2, l_n1l3, not_true_eq_false, not_false_eq_true, true_implies, false_implies, true_and, and_true, and_self, forall_eq, bI_t, bI_f, Bool.false_eq_true, or_true, true_or, or_false, false_or, s1_ltx, if_true, if_false, Nat.add_zero, Nat.zero_add,  d_leF, d_leT, d_ltF, d_ltT, d_eqF, d_eqT]
    exact p_fillBag hP hw hJ rfl (by omega) d3 hR e (fun I2 hF hH => ⟨Or.inr rfl, h I2 hF hH⟩) (fun hl I2 hF => ⟨Or.inl rfl, h2 hl I2 hF⟩)
