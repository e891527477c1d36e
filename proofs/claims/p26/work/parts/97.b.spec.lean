/-! pure: rewriting keeps what is there, fits, and is stable -/
theorem chn_xp : ∀ {es : List Nat} {P P1 : List Nd} {a i w : Nat}, chn w P a es = some (i, P1) → XP P P1
  | [], P, P1, a, i, w, h => by
    rw [chn] at h
    cases h
    exact XP.rf _
  | e :: es, P, P1, a, i, w, h => by
    rw [chn] at h
    cases em : mk P (fq a e w) with
    | none => rw [em] at h; cases h
    | some r =>
      rw [em] at h
      exact (mk_xp (i := r.1) em).tr (chn_xp h)
/-- the node anew, from the parts that came of its parts -/
def rb (q : Nd) (a b : Nat) : Nd := (q.1, a, b, q.2.2.2.1, q.2.2.2.2.1, q.2.2.2.2.2.1, q.2.2.2.2.2.2)
/-- the steps of a node that is no filter -/
theorem rwS_s {f : Nat} {P P4 : List Nd} {n r : Nat} {L : List Nat} (hf : ¬ (nd P n).1 = 1) : rwS (f + 1) P n L = some (r, P4) ↔ ∃ (a b c : Nat) (P1 P2 P3 : List Nd), (((nd P n).1 = 0 ∧ a = (nd P n).2.1 ∧ P1 = P) ∨ (¬ (nd P n).1 = 0 ∧ rwS f P (nd P n).2.1 (cF P n L) = some (a, P1))) ∧ (((nd P n).2.2.1 = 0 ∧ b = 0 ∧ P2 = P1) ∨ (¬ (nd P n).2.2.1 = 0 ∧ ∃ b0, b = b0 + 1 ∧ rwS f P1 ((nd P n).2.2.1 - 1) (cS P n L) = some (b0, P2))) ∧ mk P2 (rb (nd P n) a b) = some (c, P3) ∧ chn (nd P n).2.2.2.2.2.2 P3 c (dsc (L.drop (fre P n L))) = some (r, P4) := by
  rw [rwS, if_neg hf]
  constructor
  · intro h
    cases e1 : (if (nd P n).1 = 0 then some ((nd P n).2.1, P) else rwS f P (nd P n).2.1 (cF P n L)) with
    | none => rw [e1] at h; cases h
    | some r1 =>
      rw [e1] at h
      replace h : (match (if (nd P n).2.2.1 = 0 then some (0, r1.2) else (rwS f r1.2 ((nd P n).2.2.1 - 1) (cS P n L)).map (fun r => (r.1 + 1, r.2))) with
        | none => none
        | some r2 => match mk r2.2 (rb (nd P n) r1.1 r2.1) with
          | none => none
          | some r3 => chn (nd P n).2.2.2.2.2.2 r3.2 r3.1 (dsc (L.drop (fre P n L)))) = some (r, P4) := h
      cases e2 : (if (nd P n).2.2.1 = 0 then some (0, r1.2) else (rwS f r1.2 ((nd P n).2.2.1 - 1) (cS P n L)).map (fun r => (r.1 + 1, r.2))) with
      | none => rw [e2] at h; cases h
      | some r2 =>
        rw [e2] at h
        replace h : (match mk r2.2 (rb (nd P n) r1.1 r2.1) with
          | none => none
          | some r3 => chn (nd P n).2.2.2.2.2.2 r3.2 r3.1 (dsc (L.drop (fre P n L)))) = some (r, P4) := h
        cases e3 : mk r2.2 (rb (nd P n) r1.1 r2.1) with
        | none => rw [e3] at h; cases h
        | some r3 =>
          rw [e3] at h
          refine ⟨r1.1, r2.1, r3.1, r1.2, r2.2, r3.2, ?_, ?_, e3, h⟩
          · by_cases e : (nd P n).1 = 0
            · rw [if_pos e] at e1
              cases e1
              exact Or.inl ⟨e, rfl, rfl⟩
            · rw [if_neg e] at e1
              exact Or.inr ⟨e, e1⟩
          · by_cases e : (nd P n).2.2.1 = 0
            · rw [if_pos e] at e2
              cases e2
              exact Or.inl ⟨e, rfl, rfl⟩
            · rw [if_neg e] at e2
              obtain ⟨x, x1, x2⟩ := Option.map_eq_some_iff.mp e2
              refine Or.inr ⟨e, x.1, by rw [← x2], by rw [x1, ← x2]⟩
  · rintro ⟨a, b, c, P1, P2, P3, h1, h2, h3, h4⟩
    have e1 : (if (nd P n).1 = 0 then some ((nd P n).2.1, P) else rwS f P (nd P n).2.1 (cF P n L)) = some (a, P1) := by
      rcases h1 with ⟨e, e1, e2⟩ | ⟨e, e1⟩
      · rw [if_pos e, e1, e2]
      · rw [if_neg e, e1]
    have e2 : (if (nd P n).2.2.1 = 0 then some (0, P1) else (rwS f P1 ((nd P n).2.2.1 - 1) (cS P n L)).map (fun r => (r.1 + 1, r.2))) = some (b, P2) := by
      rcases h2 with ⟨e, e1, e2⟩ | ⟨e, b0, e1, e2⟩
      · rw [if_pos e, e1, e2]
      · rw [if_neg e, e2, e1]
        rfl
    rw [e1]
    show (match (if (nd P n).2.2.1 = 0 then some (0, P1) else (rwS f P1 ((nd P n).2.2.1 - 1) (cS P n L)).map (fun r => (r.1 + 1, r.2))) with
        | none => none
        | some r2 => match mk r2.2 (rb (nd P n) a r2.1) with
          | none => none
          | some r3 => chn (nd P n).2.2.2.2.2.2 r3.2 r3.1 (dsc (L.drop (fre P n L)))) = some (r, P4)
    rw [e2]
    show (match mk P2 (rb (nd P n) a b) with
          | none => none
          | some r3 => chn (nd P n).2.2.2.2.2.2 r3.2 r3.1 (dsc (L.drop (fre P n L)))) = some (r, P4)
    rw [h3]
    exact h4
theorem rwS_f {f : Nat} {P : List Nd} {n : Nat} {L : List Nat} (hf : (nd P n).1 = 1) : rwS (f + 1) P n L = rwS f P (nd P n).2.1 (qco (nd P n) :: L) := by rw [rwS, if_pos hf]
theorem rw_xp : ∀ {f : Nat} {P P1 : List Nd} {n r : Nat} {L : List Nat}, rwS f P n L = some (r, P1) → XP P P1
  | 0, P, P1, n, r, L, h => by cases h
  | f + 1, P, P4, n, r, L, h => by
    by_cases e : (nd P n).1 = 1
    · rw [rwS_f e] at h
      exact rw_xp h
    · obtain ⟨a, b, c, P1, P2, P3, h1, h2, h3, h4⟩ := (rwS_s e).mp h
      have x1 : XP P P1 := by
        rcases h1 with ⟨-, -, e⟩ | ⟨-, e⟩
        · rw [e]; exact XP.rf _
        · exact rw_xp e
      have x2 : XP P1 P2 := by
        rcases h2 with ⟨-, -, e⟩ | ⟨-, b0, -, e⟩
        · rw [e]; exact XP.rf _
        · exact rw_xp e
      exact ((x1.tr x2).tr (mk_xp h3)).tr (chn_xp h4)
/-- parts come ahead -/
def Sw (P : List Nd) (m : Nat) : Prop := m ≤ P.length ∧ ∀ k, k < m → ((nd P k).1 ≠ 0 → (nd P k).2.1 < k) ∧ ((nd P k).2.2.1 ≠ 0 → (nd P k).2.2.1 - 1 < k)
theorem Sw.x {P P2 : List Nd} {m : Nat} (h : Sw P m) (hx : XP P P2) : Sw P2 m := ⟨Nat.le_trans h.1 hx.le, fun k hk => by rw [hx.g (Nat.lt_of_lt_of_le hk h.1)]; exact h.2 k hk⟩
theorem Pw.sw {T : QT} {P : List Nd} (h : Pw T P) : Sw P P.length := ⟨Nat.le_refl _, fun k hk => (h.2 k hk).ab⟩
section X
variable {P P2 : List Nd} {m n : Nat} {L : List Nat}
theorem fre_x (h : Sw P m) (hx : XP P P2) (hn : n < m) : fre P2 n L = fre P n L := by
  have hm := h.1
  unfold fre
  rw [hx.g (by omega)]
  by_cases e : (nd P n).1 = 2
  · rw [hx.g (show (nd P n).2.1 < P.length by have := (h.2 n hn).1 (by omega); omega)]
  · rw [if_neg e, if_neg e]
theorem cF_x (h : Sw P m) (hx : XP P P2) (hn : n < m) (h0 : ¬ (nd P n).1 = 0) : cF P2 n L = cF P n L := by
  have hm := h.1
  unfold cF
  rw [fre_x h hx hn, hx.g (show n < P.length by omega), hx.g (show (nd P n).2.1 < P.length by have := (h.2 n hn).1 h0; omega)]
theorem cS_x (h : Sw P m) (hx : XP P P2) (hn : n < m) (h0 : ¬ (nd P n).1 = 0) : cS P2 n L = cS P n L := by
  have hm := h.1
  unfold cS
  rw [fre_x h hx hn, hx.g (show n < P.length by omega), hx.g (show (nd P n).2.1 < P.length by have := (h.2 n hn).1 h0; omega)]
end X
theorem rw_x : ∀ {f : Nat} {P P1 P2 : List Nd} {m n r : Nat} {L : List Nat}, Sw P m → n < m → rwS f P n L = some (r, P1) → XP P1 P2 → rwS f P2 n L = some (r, P2)
  | 0, P, P1, P2, m, n, r, L, hS, hn, h, hx => by cases h
  | f + 1, P, P4, P5, m, n, r, L, hS, hn, h, hx => by
    have hm := hS.1
    have hx5 : XP P P5 := (rw_xp h).tr hx
    have en : nd P5 n = nd P n := hx5.g (by omega)
    by_cases e : (nd P n).1 = 1
    · rw [rwS_f e] at h
      rw [rwS_f (by rw [en]; exact e), en]
      exact rw_x hS (by have := (hS.2 n hn).1 (by omega); omega) h hx
    · obtain ⟨a, b, c, P1, P2, P3, h1, h2, h3, h4⟩ := (rwS_s e).mp h
      have x1 : XP P P1 := by
        rcases h1 with ⟨-, -, e⟩ | ⟨-, e⟩
        · rw [e]; exact XP.rf _
        · exact rw_xp e
      have x2 : XP P1 P2 := by
        rcases h2 with ⟨-, -, e⟩ | ⟨-, b0, -, e⟩
        · rw [e]; exact XP.rf _
        · exact rw_xp e
      have x3 := mk_xp h3
      have x4 := chn_xp h4
      refine (rwS_s (by rw [en]; exact e)).mpr ⟨a, b, c, P5, P5, P5, ?_, ?_, ?_, ?_⟩
      · rw [en]
        rcases h1 with ⟨e0, e1, e2⟩ | ⟨e0, e1⟩
        · exact Or.inl ⟨e0, e1, rfl⟩
        · refine Or.inr ⟨e0, ?_⟩
          rw [cF_x hS hx5 hn e0]
          exact rw_x hS (by have := (hS.2 n hn).1 e0; omega) e1 (((x2.tr x3).tr x4).tr hx)
      · rw [en]
        rcases h2 with ⟨e0, e1, e2⟩ | ⟨e0, b0, e1, e2⟩
        · exact Or.inl ⟨e0, e1, rfl⟩
        · refine Or.inr ⟨e0, b0, e1, ?_⟩
          have et : ¬ (nd P n).1 = 0 ∨ (nd P n).1 = 0 := (Classical.em _).symm
          have hb := (hS.2 n hn).2 e0
          have ec : cS P5 n L = cS P n L := by
            rcases et with et | et
            · exact cS_x hS hx5 hn et
            · have f5 : fre P5 n L = 0 := by unfold fre; rw [en, if_neg (by omega), if_neg (by omega)]
              have f0 : fre P n L = 0 := by unfold fre; rw [if_neg (by omega), if_neg (by omega)]
              unfold cS
              rw [f5, f0]
              simp
          rw [ec]
          exact rw_x (hS.x x1) (by omega) e2 ((x3.tr x4).tr hx)
      · rw [en]
        exact mk_x h3 (x4.tr hx)
      · rw [en, fre_x hS hx5 hn]
        exact chn_x h4 (fun Q j Q1 q h => mk_xp h) hx
theorem rb_w {T : QT} {P P2 : List Nd} {n a b : Nat} {q : Nd} (h : nW T P n q) (hw2 : Pw T P2) (h0 : q.1 = 0 → a = q.2.1) (h1 : q.1 ≠ 0 → a < P2.length ∧ (nd P2 a).2.2.2.2.2.2 = (nd P q.2.1).2.2.2.2.2.2) (h2 : q.2.2.1 = 0 → b = 0) (h3 : q.2.2.1 ≠ 0 → b ≠ 0 ∧ b - 1 < P2.length ∧ (nd P2 (b - 1)).2.2.2.2.2.2 = (nd P (q.2.2.1 - 1)).2.2.2.2.2.2) : nW T P2 P2.length (rb q a b) := by
  have h24 := hw2.1
  obtain ⟨⟨b1, b2, b3, b4, b5, b6, b7⟩, hwd, c0, c1, c2, c3, c4, c5⟩ := h
  refine ⟨⟨b1, ?_, ?_, b4, b5, b6, b7⟩, ?_, fun e => ?_, fun e => (h1 e).1, fun e => ?_, fun e => ?_, fun e => ?_, fun e => ?_⟩
  · show a < 24
    by_cases e : q.1 = 0
    · rw [h0 e]; exact b2
    · have := (h1 e).1; omega
  · show b ≤ 24
    by_cases e : q.2.2.1 = 0
    · rw [h2 e]; omega
    · have := (h3 e).2.1; omega
  · show q.2.2.2.2.2.2 = wd T P2 (rb q a b)
    rw [hwd]
    unfold wd
    show (if q.1 = 0 then T.2.1 q.2.1 else _) = (if q.1 = 0 then T.2.1 a else if q.1 = 3 then 2 else if q.1 = 2 ∧ q.2.2.2.1 < 2 then (nd P2 a).2.2.2.2.2.2 + (nd P2 (b - 1)).2.2.2.2.2.2 else (nd P2 a).2.2.2.2.2.2)
    by_cases e : q.1 = 0
    · rw [if_pos e, if_pos e, h0 e]
    · rw [if_neg e, if_neg e, (h1 e).2]
      by_cases e2 : q.1 = 2
      · rw [(h3 (c3 e2).1).2.2]
      · rw [if_neg (show ¬ (q.1 = 2 ∧ q.2.2.2.1 < 2) from fun z => e2 z.1), if_neg (show ¬ (q.1 = 2 ∧ q.2.2.2.1 < 2) from fun z => e2 z.1)]
  · obtain ⟨x1, x2, x3, x4, x5⟩ := c0 e
    exact ⟨by show a < T.1; rw [h0 e]; exact x1, h2 x2, x3, x4, x5⟩
  · obtain ⟨x1, x2, x3⟩ := c2 e
    have e0 : q.1 ≠ 0 := fun z => by have e : q.1 = 1 := e; omega
    refine ⟨h2 x1, ?_, x3⟩
    show q.2.2.2.2.1 < (nd P2 a).2.2.2.2.2.2
    rw [(h1 e0).2]; exact x2
  · obtain ⟨x1, x2, x3, x4, x5⟩ := c3 e
    have e0 : q.1 ≠ 0 := fun z => by have e : q.1 = 2 := e; omega
    obtain ⟨y1, y2, y3⟩ := h3 x1
    refine ⟨y1, y2, x3, ?_, ?_⟩
    · show q.2.2.2.2.1 < (nd P2 a).2.2.2.2.2.2
      rw [(h1 e0).2]; exact x4
    · show ∃ d : Nat, q.2.2.2.2.2.1 = nI d ∧ d < (nd P2 (b - 1)).2.2.2.2.2.2
      rw [y3]; exact x5
  · obtain ⟨x1, x2, x3, x4⟩ := c4 e
    have e0 : q.1 ≠ 0 := fun z => by have e : q.1 = 3 := e; omega
    refine ⟨h2 x1, x2, ?_, ?_⟩
    · show q.2.2.2.2.1 < (nd P2 a).2.2.2.2.2.2
      rw [(h1 e0).2]; exact x3
    · show ∃ d : Nat, q.2.2.2.2.2.1 = nI d ∧ d < (nd P2 a).2.2.2.2.2.2
      rw [(h1 e0).2]; exact x4
  · obtain ⟨x1, x2, x3, x4, x5, x6⟩ := c5 e
    have e0 : q.1 ≠ 0 := fun z => by have e : q.1 = 4 := e; omega
    obtain ⟨y1, y2, y3⟩ := h3 x1
    refine ⟨y1, y2, x3, x4, x5, ?_⟩
    show (nd P2 (b - 1)).2.2.2.2.2.2 = (nd P2 a).2.2.2.2.2.2
    rw [y3, (h1 e0).2]; exact x6
section OK
variable {T : QT} {P : List Nd} {n : Nat} {L : List Nat}
theorem cF_ok (hw : Pw T P) (hn : n < P.length) (hL : okL (nd P n).2.2.2.2.2.2 L) : okL (nd P (nd P n).2.1).2.2.2.2.2.2 (cF P n L) := by
  obtain ⟨hB, hwd, c0, c1, c2, c3, c4, c5⟩ := hw.2 n hn
  unfold cF
  by_cases e : (nd P n).1 = 4
  · rw [if_pos e]
    unfold wd at hwd
    rw [if_neg (by omega), if_neg (by omega), if_neg (by omega)] at hwd
    rw [← hwd]
    exact okL_take hL
  · rw [if_neg e]
    intro x hx
    obtain ⟨x1, x2⟩ := List.mem_filter.mp hx
    exact ⟨of_decide_eq_true x2, (okL_take hL x x1).2⟩
theorem cS_ok (hw : Pw T P) (hn : n < P.length) (h0 : (nd P n).2.2.1 ≠ 0) (hL : okL (nd P n).2.2.2.2.2.2 L) : okL (nd P ((nd P n).2.2.1 - 1)).2.2.2.2.2.2 (cS P n L) := by
  obtain ⟨⟨b1, -⟩, hwd, c0, c1, c2, c3, c4, c5⟩ := hw.2 n hn
  have et : (nd P n).1 = 2 ∨ (nd P n).1 = 4 := by
    rcases (show (nd P n).1 = 0 ∨ (nd P n).1 = 1 ∨ (nd P n).1 = 2 ∨ (nd P n).1 = 3 ∨ (nd P n).1 = 4 by omega) with e | e | e | e | e
    · exact absurd (c0 e).2.1 h0
    · exact absurd (c2 e).1 h0
    · exact Or.inl e
    · exact absurd (c4 e).1 h0
    · exact Or.inr e
  unfold cS
  unfold wd at hwd
  rcases et with e | e
  · rw [if_neg (by omega)]
    rw [if_neg (by omega), if_neg (by omega)] at hwd
    intro x hx
    obtain ⟨y, y1, y2⟩ := List.mem_map.mp hx
    obtain ⟨x1, x2⟩ := List.mem_filter.mp y1
    have x3 := of_decide_eq_true x2
    obtain ⟨x4, x5⟩ := okL_take hL y x1
    by_cases ek : (nd P n).1 = 2 ∧ (nd P n).2.2.2.1 < 2
    · rw [if_pos ek] at hwd
      omega
    · rw [if_neg ek] at hwd
      omega
  · rw [if_pos e]
    rw [if_neg (by omega), if_neg (by omega), if_neg (by omega)] at hwd
    rw [(c5 e).2.2.2.2.2, ← hwd]
    exact okL_take hL
theorem qc_ok (hw : Pw T P) (hn : n < P.length) (h1 : (nd P n).1 = 1) (hL : okL (nd P n).2.2.2.2.2.2 L) : okL (nd P (nd P n).2.1).2.2.2.2.2.2 (qco (nd P n) :: L) := by
  have h := hw.2 n hn
  obtain ⟨e1, e2, e3, e4⟩ := qco_ok h h1
  obtain ⟨hB, hwd, c0, c1, c2, c3, c4, c5⟩ := h
  unfold wd at hwd
  rw [if_neg (by omega), if_neg (by omega), if_neg (by omega)] at hwd
  intro x hx
  rcases List.mem_cons.mp hx with z | z
  · rw [z, e1]
    exact ⟨(c2 h1).2.1, e3⟩
  · rw [← hwd]
    exact hL x z
end OK
theorem rw_ok {T : QT} : ∀ {f : Nat} {P P1 : List Nd} {n r : Nat} {L : List Nat}, Pw T P → Pd P → n < P.length → okL (nd P n).2.2.2.2.2.2 L → rwS f P n L = some (r, P1) → Pw T P1 ∧ Pd P1 ∧ XP P P1 ∧ r < P1.length ∧ (nd P1 r).2.2.2.2.2.2 = (nd P n).2.2.2.2.2.2
  | 0, P, P1, n, r, L, hw, hd, hn, hL, h => by cases h
  | f + 1, P, P4, n, r, L, hw, hd, hn, hL, h => by
    have hW := hw.2 n hn
    have hab := hW.ab
    by_cases e : (nd P n).1 = 1
    · rw [rwS_f e] at h
      have ha := hab.1 (by omega)
      obtain ⟨x1, x2, x3, x4, x5⟩ := rw_ok hw hd (by omega) (qc_ok hw hn e hL) h
      refine ⟨x1, x2, x3, x4, ?_⟩
      rw [x5]
      have hwd := hW.2.1
      unfold wd at hwd
      rw [if_neg (by omega), if_neg (by omega), if_neg (by omega)] at hwd
      exact hwd.symm
    · obtain ⟨a, b, c, P1, P2, P3, h1, h2, h3, h4⟩ := (rwS_s e).mp h
      have s1 : Pw T P1 ∧ Pd P1 ∧ XP P P1 ∧ ((nd P n).1 = 0 → a = (nd P n).2.1) ∧ ((nd P n).1 ≠ 0 → a < P1.length ∧ (nd P1 a).2.2.2.2.2.2 = (nd P (nd P n).2.1).2.2.2.2.2.2) := by
        rcases h1 with ⟨e0, e1, e2⟩ | ⟨e0, e1⟩
        · rw [e2]; exact ⟨hw, hd, XP.rf _, fun _ => e1, fun z => absurd e0 z⟩
        · obtain ⟨x1, x2, x3, x4, x5⟩ := rw_ok hw hd (by have := hab.1 e0; omega) (cF_ok hw hn hL) e1
          exact ⟨x1, x2, x3, fun z => absurd z e0, fun _ => ⟨x4, x5⟩⟩
      obtain ⟨w1, d1, x1, a0, a1⟩ := s1
      have hl1 := x1.le
      have s2 : Pw T P2 ∧ Pd P2 ∧ XP P1 P2 ∧ ((nd P n).2.2.1 = 0 → b = 0) ∧ ((nd P n).2.2.1 ≠ 0 → b ≠ 0 ∧ b - 1 < P2.length ∧ (nd P2 (b - 1)).2.2.2.2.2.2 = (nd P ((nd P n).2.2.1 - 1)).2.2.2.2.2.2) := by
        rcases h2 with ⟨e0, e1, e2⟩ | ⟨e0, b0, e1, e2⟩
        · rw [e2]; exact ⟨w1, d1, XP.rf _, fun _ => e1, fun z => absurd e0 z⟩
        · have hb := hab.2 e0
          have eb : nd P1 ((nd P n).2.2.1 - 1) = nd P ((nd P n).2.2.1 - 1) := x1.g (by omega)
          obtain ⟨y1, y2, y3, y4, y5⟩ := rw_ok w1 d1 (by omega) (by rw [eb]; exact cS_ok hw hn e0 hL) e2
          rw [eb] at y5
          refine ⟨y1, y2, y3, fun z => absurd z e0, fun _ => ⟨by omega, by rw [e1]; exact y4, by rw [e1]; exact y5⟩⟩
      obtain ⟨w2, d2, x2, b0, b1⟩ := s2
      have hl2 := x2.le
      have hq : nW T P2 P2.length (rb (nd P n) a b) := rb_w hW w2 a0 (fun z => ⟨by have := (a1 z).1; omega, by rw [x2.g (a1 z).1]; exact (a1 z).2⟩) b0 b1
      obtain ⟨w3, d3, x3, c3, -⟩ := mk_ok w2 d2 hq h3
      have cw := mk_w w2 d2 hq h3
      obtain ⟨w4, d4, x4, c4, r4⟩ := chn_ok w3 d3 c3 cw (okL_dsc (okL_drop hL)) h4
      exact ⟨w4, d4, ((x1.tr x2).tr x3).tr x4, c4, r4⟩
theorem rw_f : ∀ (f g : Nat) {P : List Nd} {m n : Nat} {L : List Nat}, Sw P m → n < m → n < f → n < g → rwS f P n L = rwS g P n L
  | 0, _, P, m, n, L, _, _, h, _ => absurd h (Nat.not_lt_zero n)
  | _ + 1, 0, P, m, n, L, _, _, _, h => absurd h (Nat.not_lt_zero n)
  | f + 1, g + 1, P, m, n, L, hS, hn, hf, hg => by
    by_cases e : (nd P n).1 = 1
    · rw [rwS_f e, rwS_f e]
      have := (hS.2 n hn).1 (by omega)
      exact rw_f f g hS (by omega) (by omega) (by omega)
    · rw [rwS, rwS, if_neg e, if_neg e]
      have e1 : (if (nd P n).1 = 0 then some ((nd P n).2.1, P) else rwS f P (nd P n).2.1 (cF P n L)) = (if (nd P n).1 = 0 then some ((nd P n).2.1, P) else rwS g P (nd P n).2.1 (cF P n L)) := by
        by_cases e0 : (nd P n).1 = 0
        · rw [if_pos e0, if_pos e0]
        · rw [if_neg e0, if_neg e0]
          have := (hS.2 n hn).1 e0
          exact rw_f f g hS (by omega) (by omega) (by omega)
      rw [e1]
      cases er : (if (nd P n).1 = 0 then some ((nd P n).2.1, P) else rwS g P (nd P n).2.1 (cF P n L)) with
      | none => rfl
      | some r1 =>
        have x1 : XP P r1.2 := by
          by_cases e0 : (nd P n).1 = 0
          · rw [if_pos e0] at er
            cases er
            exact XP.rf _
          · rw [if_neg e0] at er
            exact rw_xp (r := r1.1) er
        have e2 : (if (nd P n).2.2.1 = 0 then some (0, r1.2) else (rwS f r1.2 ((nd P n).2.2.1 - 1) (cS P n L)).map (fun r => (r.1 + 1, r.2))) = (if (nd P n).2.2.1 = 0 then some (0, r1.2) else (rwS g r1.2 ((nd P n).2.2.1 - 1) (cS P n L)).map (fun r => (r.1 + 1, r.2))) := by
          by_cases e0 : (nd P n).2.2.1 = 0
          · rw [if_pos e0, if_pos e0]
          · rw [if_neg e0, if_neg e0]
            have := (hS.2 n hn).2 e0
            rw [rw_f f g (hS.x x1) (by omega) (by omega) (by omega)]
        show (match (if (nd P n).2.2.1 = 0 then some (0, r1.2) else (rwS f r1.2 ((nd P n).2.2.1 - 1) (cS P n L)).map (fun r => (r.1 + 1, r.2))) with
          | none => none
          | some r2 => _) = (match (if (nd P n).2.2.1 = 0 then some (0, r1.2) else (rwS g r1.2 ((nd P n).2.2.1 - 1) (cS P n L)).map (fun r => (r.1 + 1, r.2))) with
          | none => none
          | some r2 => _)
        rw [e2]
