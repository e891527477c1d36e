/-! pure: rewriting keeps the rows -/
def pe (e : Nat) (X : List Int32) : Bool := isT (e / 200 % 6) (X.getD (e / 1200) UK) (nI (e % 200) - nI 99)
def pa9 (L : List Nat) (X : List Int32) : Bool := L.all (fun e => pe e X)
theorem pa_cg {L M : List Nat} (h : ∀ e, e ∈ L ↔ e ∈ M) : pa9 L = pa9 M := by
  funext X
  refine Bool.eq_iff_iff.mpr ?_
  unfold pa9
  rw [List.all_eq_true, List.all_eq_true]
  exact ⟨fun z e he => z e ((h e).mpr he), fun z e he => z e ((h e).mp he)⟩
theorem pa_dsc (L : List Nat) : pa9 (dsc L) = pa9 L := pa_cg (fun _ => dsc_mem)
theorem pa_split (L : List Nat) (k : Nat) (X : List Int32) : pa9 L X = (pa9 (L.take k) X && pa9 (L.drop k) X) := by
  have h : pa9 L X = pa9 (L.take k ++ L.drop k) X := by rw [List.take_append_drop]
  rw [h]
  unfold pa9
  exact List.all_append
theorem pa_ff (L : List Nat) (k : Nat) (A : List (List Int32)) : (A.filter (pa9 (L.take k))).filter (pa9 (L.drop k)) = A.filter (pa9 L) := by
  rw [List.filter_filter]
  exact List.filter_congr (fun X _ => by rw [pa_split L k X, Bool.and_comm])
theorem pa_n (A : List (List Int32)) : A.filter (pa9 []) = A := fil_t (fun _ _ => rfl)
theorem gA_l {X Y : List Int32} {k : Nat} (h : k < X.length) : (X ++ Y).getD k UK = X.getD k UK := by
  rw [List.getD_eq_getElem?_getD, List.getD_eq_getElem?_getD, List.getElem?_append_left h]
theorem gA_r {X Y : List Int32} {k : Nat} (h : X.length ≤ k) : (X ++ Y).getD k UK = Y.getD (k - X.length) UK := by
  rw [List.getD_eq_getElem?_getD, List.getD_eq_getElem?_getD, List.getElem?_append_right h]
theorem pa_app {X Y : List Int32} {L : List Nat} (h : ∀ e, e ∈ L → e / 1200 < X.length) : pa9 L (X ++ Y) = pa9 L X := by
  unfold pa9
  refine Bool.eq_iff_iff.mpr ?_
  have e1 : ∀ e, e ∈ L → pe e (X ++ Y) = pe e X := fun e he => by
    unfold pe
    rw [gA_l (h e he)]
  rw [List.all_eq_true, List.all_eq_true]
  exact ⟨fun z e he => by rw [← e1 e he]; exact z e he, fun z e he => by rw [e1 e he]; exact z e he⟩
theorem pa_sp {X Y : List Int32} {w : Nat} (hX : X.length = w) : ∀ L : List Nat, pa9 L (X ++ Y) = (pa9 (L.filter (fun e => decide (e / 1200 < w))) X && pa9 ((L.filter (fun e => decide (¬ e / 1200 < w))).map (fun e => e - 1200 * w)) Y)
  | [] => rfl
  | e :: L => by
    have ih := pa_sp (Y := Y) hX L
    show (pe e (X ++ Y) && pa9 L (X ++ Y)) = _
    rw [ih]
    by_cases h : e / 1200 < w
    · have e1 : pe e (X ++ Y) = pe e X := by
        unfold pe
        rw [gA_l (by omega)]
      rw [e1, List.filter_cons, if_pos (decide_eq_true h), List.filter_cons, if_neg (by rw [decide_eq_false (fun z => z h)]; decide)]
      show _ = ((pe e X && pa9 _ X) && _)
      rw [Bool.and_assoc]
    · have e1 : pe e (X ++ Y) = pe (e - 1200 * w) Y := by
        unfold pe
        rw [gA_r (by omega), hX, show (e - 1200 * w) / 200 % 6 = e / 200 % 6 by omega, show (e - 1200 * w) / 1200 = e / 1200 - w by omega, show (e - 1200 * w) % 200 = e % 200 by omega]
      rw [e1, List.filter_cons, if_neg (by rw [decide_eq_false h]; decide), List.filter_cons, if_pos (decide_eq_true h), List.map_cons]
      show _ = (_ && (pe (e - 1200 * w) Y && pa9 _ Y))
      cases pe (e - 1200 * w) Y
      · rw [Bool.false_and, Bool.false_and, Bool.and_false]
      · rw [Bool.true_and, Bool.true_and]
theorem pre_lt {b : Nat} : ∀ {L : List Nat} {e : Nat}, e ∈ L.take (pre b L) → e / 1200 < b
  | [], e, h => by cases h
  | x :: xs, e, h => by
    rw [pre] at h
    by_cases hx : x / 1200 < b
    · rw [if_pos hx, List.take_succ_cons] at h
      rcases List.mem_cons.mp h with rfl | h
      · exact hx
      · exact pre_lt h
    · rw [if_neg hx] at h
      cases h
theorem fil_six {T : QT} {q q2 : Nd} (h : six q = six q2) (wb : Nat) (A B : List (List Int32)) : fil T q wb A B = fil T q2 wb A B := by
  obtain ⟨h1, h2, h3, h4, h5, h6⟩ := six_w h
  unfold fil
  rw [h1, h2, h4, h5, h6]
theorem TV_flt {T : QT} {P : List Nd} {n : Nat} (hw : Pw T P) (hn : n < P.length) (h1 : (nd P n).1 = 1) : TV T P n = (TV T P (nd P n).2.1).filter (pe (qco (nd P n))) := by
  obtain ⟨q1, q2, q3, q4⟩ := qco_ok (hw.2 n hn) h1
  rw [TV_eq hw hn, if_neg (by omega)]
  unfold fil
  rw [if_neg (by omega), if_pos h1, flF_eq _ _ _ _ _ (Nat.le_refl _), List.take_length]
  refine List.filter_congr (fun X _ => ?_)
  unfold pe
  rw [q1, q2, ← q4]
theorem chn_tv {T : QT} : ∀ {es : List Nat} {P P4 : List Nd} {a r w : Nat}, Pw T P → Pd P → a < P.length → (nd P a).2.2.2.2.2.2 = w → okL w es → chn w P a es = some (r, P4) → TV T P4 r = (TV T P a).filter (pa9 es)
  | [], P, P4, a, r, w, hw, hd, ha, ew, hL, h => by
    rw [chn] at h
    cases h
    exact (pa_n _).symm
  | e :: es, P, P4, a, r, w, hw, hd, ha, ew, hL, h => by
    rw [chn] at h
    cases em : mk P (fq a e w) with
    | none => rw [em] at h; cases h
    | some q =>
      rw [em] at h
      have h2 : chn w q.2 q.1 es = some (r, P4) := h
      have he := hL e List.mem_cons_self
      have hq : nW T P P.length (fq a e w) := by
        rw [← ew]
        exact fq_w hw ha (by rw [ew]; exact he.1) he.2
      obtain ⟨m1, m2, m3, m4, m5⟩ := mk_ok hw hd hq (i := q.1) (P1 := q.2) em
      have mw := mk_w hw hd hq (i := q.1) (P1 := q.2) em
      have s1 : (nd q.2 q.1).1 = 1 := (six_w m5).1
      have s2 : (nd q.2 q.1).2.1 = a := (six_w m5).2.1
      rw [chn_tv m1 m2 m4 mw (fun e he => hL e (List.mem_cons_of_mem _ he)) h2, TV_flt m1 m4 s1, s2, TV_x hw m3 ha, qco_fq he.2 m5, List.filter_filter]
      exact List.filter_congr (fun X _ => Bool.and_comm _ _)
theorem prR_0 (c d wb : Nat) (B : List (List Int32)) (X : List Int32) : prR 0 c d wb B X = if X.getD c UK = UK then [] else (B.filter (fun Y => decide (Y.getD d UK = X.getD c UK))).map (fun Y => X ++ Y) := by
  unfold prR
  rw [if_neg (fun z => z.2 rfl), prN_eq B d X _ B.length (Nat.le_refl _), List.take_length]
/-- what a node does with filters that go down -/
theorem fil_pass {T : QT} {P : List Nd} {n wb : Nat} {L : List Nat} {A B : List (List Int32)} (hw : Pw T P) (hn : n < P.length) (h1 : ¬ (nd P n).1 = 1) (hA : (nd P n).1 ≠ 0 → ∀ X, X ∈ A → X.length = (nd P (nd P n).2.1).2.2.2.2.2.2) :
    (fil T (nd P n) wb (A.filter (pa9 (cF P n L))) (B.filter (pa9 (cS P n L)))).filter (pa9 (L.drop (fre P n L))) = (fil T (nd P n) wb A B).filter (pa9 L) := by
  have h5 := (hw.2 n hn).1.1
  by_cases e0 : (nd P n).1 = 0
  · have ef : fre P n L = 0 := by
      unfold fre
      rw [if_neg (by omega), if_neg (by omega)]
    unfold fil
    rw [if_pos e0, if_pos e0, ef, List.drop_zero]
  by_cases e3 : (nd P n).1 = 3
  · have ef : fre P n L = 0 := by
      unfold fre
      rw [if_neg (by omega), if_neg (by omega)]
    have ec : cF P n L = [] := by
      unfold cF
      rw [if_neg (by omega), ef, List.take_zero, List.filter_nil]
    unfold fil
    rw [if_neg e0, if_neg h1, if_neg (by omega), if_pos e3, if_neg e0, if_neg h1, if_neg (by omega), if_pos e3, ef, List.drop_zero, ec, pa_n]
  by_cases e4 : (nd P n).1 = 4
  · by_cases k0 : (nd P n).2.2.2.1 = 0
    · have ef : fre P n L = L.length := by
        unfold fre
        rw [if_neg (by omega), if_pos ⟨e4, k0⟩]
      have ec : cF P n L = L := by
        unfold cF
        rw [if_pos e4, ef, List.take_length]
      have ed : cS P n L = L := by
        unfold cS
        rw [if_pos e4, ef, List.take_length]
      unfold fil
      rw [if_neg e0, if_neg h1, if_neg (by omega), if_neg e3, if_pos k0, if_neg e0, if_neg h1, if_neg (by omega), if_neg e3, if_pos k0, ef, List.drop_length, pa_n, ec, ed, List.filter_append]
    · have ef : fre P n L = 0 := by
        unfold fre
        rw [if_neg (by omega), if_neg (fun z => k0 z.2)]
      have ec : cF P n L = [] := by
        unfold cF
        rw [if_pos e4, ef, List.take_zero]
      have ed : cS P n L = [] := by
        unfold cS
        rw [if_pos e4, ef, List.take_zero]
      rw [ec, ed, pa_n, pa_n, ef, List.drop_zero]
  have e2 : (nd P n).1 = 2 := by omega
  replace hA := hA e0
  by_cases k0 : (nd P n).2.2.2.1 = 0
  · have ef : fre P n L = L.length := by
      unfold fre
      rw [if_pos e2, if_pos k0]
    have ec : cF P n L = L.filter (fun e => decide (e / 1200 < (nd P (nd P n).2.1).2.2.2.2.2.2)) := by
      unfold cF
      rw [if_neg e4, ef, List.take_length]
    have ed : cS P n L = (L.filter (fun e => decide (¬ e / 1200 < (nd P (nd P n).2.1).2.2.2.2.2.2))).map (fun e => e - 1200 * (nd P (nd P n).2.1).2.2.2.2.2.2) := by
      unfold cS
      rw [if_neg e4, ef, List.take_length]
    unfold fil
    rw [if_neg e0, if_neg h1, if_pos e2, if_pos (by omega), if_neg e0, if_neg h1, if_pos e2, if_pos (by omega), ef, List.drop_length, pa_n, flJ_eq _ _ _ _ _ _ _ (Nat.le_refl _), List.take_length, flJ_eq _ _ _ _ _ _ _ (Nat.le_refl _), List.take_length, k0, fil_fm, fm_fil]
    refine fm_cg (fun X hX => ?_)
    rw [prR_0, prR_0]
    by_cases u : X.getD (nd P n).2.2.2.2.1 UK = UK
    · rw [if_pos u, if_pos u, ite_self]
      rfl
    · rw [if_neg u, if_neg u, List.filter_map]
      have hs : ∀ Y, pa9 L (X ++ Y) = (pa9 (cF P n L) X && pa9 (cS P n L) Y) := fun Y => by rw [ec, ed]; exact pa_sp (hA X hX) L
      by_cases hp : pa9 (cF P n L) X = true
      · rw [if_pos hp, ff_c]
        congr 1
        refine List.filter_congr (fun Y _ => ?_)
        show _ = pa9 L (X ++ Y)
        rw [hs, hp, Bool.true_and]
      · rw [if_neg hp]
        have : (B.filter (fun Y => decide (Y.getD (nd P n).2.2.2.2.2.1.toNatClampNeg UK = X.getD (nd P n).2.2.2.2.1 UK))).filter (pa9 L ∘ fun Y => X ++ Y) = [] := by
          refine List.filter_eq_nil_iff.mpr (fun Y _ => ?_)
          show ¬ pa9 L (X ++ Y) = true
          rw [hs]
          intro z
          exact hp (Bool.and_eq_true_iff.mp z).1
        rw [this]
        rfl
  · have ef : fre P n L = pre (nd P (nd P n).2.1).2.2.2.2.2.2 L := by
      unfold fre
      rw [if_pos e2, if_neg k0]
    have hl : ∀ e, e ∈ L.take (fre P n L) → e / 1200 < (nd P (nd P n).2.1).2.2.2.2.2.2 := fun e he => by
      rw [ef] at he
      exact pre_lt he
    have ec : cF P n L = L.take (fre P n L) := by
      unfold cF
      rw [if_neg e4]
      exact fil_t (fun e he => decide_eq_true (hl e he))
    have ed : cS P n L = [] := by
      unfold cS
      rw [if_neg e4]
      have : (L.take (fre P n L)).filter (fun e => decide (¬ e / 1200 < (nd P (nd P n).2.1).2.2.2.2.2.2)) = [] := by
        refine List.filter_eq_nil_iff.mpr (fun e he => ?_)
        rw [decide_eq_false (fun z => z (hl e he))]
        decide
      rw [this]
      rfl
    rw [ec, ed, pa_n]
    generalize fre P n L = k at hl ⊢
    rw [← pa_ff L k]
    congr 1
    unfold fil
    rw [if_neg e0, if_neg h1, if_pos e2, if_neg e0, if_neg h1, if_pos e2]
    by_cases kk : (nd P n).2.2.2.1 < 2
    · rw [if_pos kk, if_pos kk, flJ_eq _ _ _ _ _ _ _ (Nat.le_refl _), List.take_length, flJ_eq _ _ _ _ _ _ _ (Nat.le_refl _), List.take_length, fil_fm, fm_fil]
      refine fm_cg (fun X hX => ?_)
      have hs : ∀ R, R ∈ prR (nd P n).2.2.2.1 (nd P n).2.2.2.2.1 (nd P n).2.2.2.2.2.1.toNatClampNeg wb B X → pa9 (L.take k) R = pa9 (L.take k) X := by
        intro R hR
        rcases prR_m hR with e | ⟨Y, -, e⟩
        · rw [e]; exact pa_app (fun e he => by rw [hA X hX]; exact hl e he)
        · rw [e]; exact pa_app (fun e he => by rw [hA X hX]; exact hl e he)
      by_cases hp : pa9 (L.take k) X = true
      · rw [if_pos hp]
        exact (fil_t (fun R hR => (hs R hR).trans hp)).symm
      · rw [if_neg hp]
        exact (List.filter_eq_nil_iff.mpr (fun R hR => by rw [hs R hR]; exact hp)).symm
    · rw [if_neg kk, if_neg kk, flT_eq _ _ _ _ _ _ (Nat.le_refl _), List.take_length, flT_eq _ _ _ _ _ _ (Nat.le_refl _), List.take_length, ff_c]
theorem rw_tv {T : QT} : ∀ {f : Nat} {P P1 : List Nd} {n r : Nat} {L : List Nat}, Pw T P → Pd P → n < P.length → okL (nd P n).2.2.2.2.2.2 L → rwS f P n L = some (r, P1) → TV T P1 r = (TV T P n).filter (pa9 L)
  | 0, P, P1, n, r, L, hw, hd, hn, hL, h => by cases h
  | f + 1, P, P4, n, r, L, hw, hd, hn, hL, h => by
    have hab := (hw.2 n hn).ab
    by_cases e : (nd P n).1 = 1
    · rw [rwS_f e] at h
      have ha := hab.1 (by omega)
      rw [rw_tv hw hd (by omega) (qc_ok hw hn e hL) h, TV_flt hw hn e, List.filter_filter]
      exact List.filter_congr (fun X _ => Bool.and_comm _ _)
    · obtain ⟨a, b, c, P1, P2, P3, h1, h2, h4, ⟨w1, d1, x1, a1⟩, ⟨w2, d2, x2, b1⟩, ⟨w3, d3, x3, c3, s3, cw⟩, w4, d4, x4, r4⟩ := rw_dec hw hd hn hL e h
      have hl1 := x1.le
      have hl2 := x2.le
      rw [chn_tv w3 d3 c3 cw (okL_dsc (okL_drop hL)) h4, pa_dsc, TV_eq w3 c3, fil_six s3]
      obtain ⟨t1, t2, t3, t4, t5, t6⟩ := six_w s3
      have t1 : (nd P3 c).1 = (nd P n).1 := t1
      have t2 : (nd P3 c).2.1 = a := t2
      have t3 : (nd P3 c).2.2.1 = b := t3
      have efil : ∀ (wb : Nat) (A B : List (List Int32)), fil T (rb (nd P n) a b) wb A B = (if (nd P n).1 = 0 then flS T a (T.2.2.1 a) else fil T (nd P n) wb A B) := by
        intro wb A B
        by_cases z : (nd P n).1 = 0
        · rw [if_pos z]
          exact if_pos z
        · rw [if_neg z]
          unfold fil
          have y : ¬ (rb (nd P n) a b).1 = 0 := z
          rw [if_neg y, if_neg z]
          rfl
      rw [efil, t1, t2, t3]
      have main : (if (nd P n).1 = 0 then flS T a (T.2.2.1 a) else fil T (nd P n) (nd P3 (b - 1)).2.2.2.2.2.2 (if (nd P n).1 = 0 then [] else TV T P3 a) (if b = 0 then [] else TV T P3 (b - 1))) = fil T (nd P n) (nd P ((nd P n).2.2.1 - 1)).2.2.2.2.2.2 ((if (nd P n).1 = 0 then [] else TV T P (nd P n).2.1).filter (pa9 (cF P n L))) ((if (nd P n).2.2.1 = 0 then [] else TV T P ((nd P n).2.2.1 - 1)).filter (pa9 (cS P n L))) := by
        have hB : (if b = 0 then [] else TV T P3 (b - 1)) = (if (nd P n).2.2.1 = 0 then [] else TV T P ((nd P n).2.2.1 - 1)).filter (pa9 (cS P n L)) := by
          rcases h2 with ⟨e0, e1, e2⟩ | ⟨e0, b0, e1, e2⟩
          · rw [if_pos e1, if_pos e0]; rfl
          · have hb := hab.2 e0
            have eb : nd P1 ((nd P n).2.2.1 - 1) = nd P ((nd P n).2.2.1 - 1) := x1.g (by omega)
            have lb : b0 < P2.length := by
              have := (b1 e0).1
              omega
            rw [if_neg (by omega), if_neg e0, show b - 1 = b0 by omega, TV_x w2 x3 lb, rw_tv w1 d1 (by omega) (by rw [eb]; exact cS_ok hw hn e0 hL) e2, TV_x hw x1 (by omega)]
        rcases h1 with ⟨e0, e1, e2⟩ | ⟨e0, e1⟩
        · rw [if_pos e0]
          unfold fil
          rw [if_pos e0, e1]
        · have ha := hab.1 e0
          rw [if_neg e0, if_neg e0, if_neg e0, hB, TV_x w2 x3 (by have := (a1 e0).1; omega), TV_x w1 x2 (a1 e0).1, rw_tv hw hd (by omega) (cF_ok hw hn hL) e1]
          by_cases e5 : (nd P n).2.2.1 = 0
          · have e2 : ¬ (nd P n).1 = 2 := fun z => ((hw.2 n hn).2.2.2.2.2.1 z).1 e5
            unfold fil
            rw [if_neg e2, if_neg e2]
          · have : (nd P3 (b - 1)).2.2.2.2.2.2 = (nd P ((nd P n).2.2.1 - 1)).2.2.2.2.2.2 := by rw [x3.g (b1 e5).1]; exact (b1 e5).2
            rw [this]
      rw [main, fil_pass hw hn e (fun z X hX => by
        rw [if_neg z] at hX
        exact TV_w hw _ _ (by have := hab.1 z; omega) X hX), TV_eq hw hn]
