/-! pure: what has been rewritten is left as it is -/
theorem qco_fq {a e w : Nat} (he : e % 200 < 199) {q : Nd} (h : six q = six (fq a e w)) : qco q = e := by
  obtain ⟨-, -, -, h4, h5, h6⟩ := six_w h
  have h4 : q.2.2.2.1 = e / 200 % 6 := h4
  have h5 : q.2.2.2.2.1 = e / 1200 := h5
  have h6 : q.2.2.2.2.2.1 = nI (e % 200) - nI 99 := h6
  unfold qco
  rw [h4, h5, h6, Int32.sub_add_cancel, nI_clamp (by omega)]
  omega
def Ds (l : List Nat) : Prop := l.Pairwise (fun a b => b ≤ a)
theorem ins_ds {e : Nat} : ∀ {l : List Nat}, Ds l → Ds (ins e l)
  | [], _ => List.pairwise_singleton _ _
  | x :: xs, h => by
    obtain ⟨h1, h2⟩ := List.pairwise_cons.mp h
    rw [ins]
    by_cases hx : x < e
    · rw [if_pos hx]
      refine List.pairwise_cons.mpr ⟨fun y hy => ?_, h⟩
      rcases List.mem_cons.mp hy with rfl | hy
      · omega
      · have := h1 y hy
        omega
    · rw [if_neg hx]
      refine List.pairwise_cons.mpr ⟨fun y hy => ?_, ins_ds h2⟩
      rcases ins_mem.mp hy with rfl | hy
      · omega
      · exact h1 y hy
theorem dsc_ds : ∀ l : List Nat, Ds (dsc l)
  | [] => List.Pairwise.nil
  | x :: xs => ins_ds (dsc_ds xs)
theorem dsc_id : ∀ {l : List Nat}, Ds l → dsc l = l
  | [], _ => rfl
  | x :: xs, h => by
    obtain ⟨h1, h2⟩ := List.pairwise_cons.mp h
    rw [dsc, dsc_id h2, ins_max h1]
theorem pre_drop {b : Nat} : ∀ L : List Nat, L.drop (pre b L) = [] ∨ ∃ x xs, L.drop (pre b L) = x :: xs ∧ ¬ x / 1200 < b
  | [] => Or.inl rfl
  | e :: es => by
    rw [pre]
    by_cases h : e / 1200 < b
    · rw [if_pos h]
      exact pre_drop es
    · rw [if_neg h]
      exact Or.inr ⟨e, es, rfl, h⟩
theorem pre_dsc {b : Nat} (L : List Nat) : pre b (dsc (L.drop (pre b L))) = 0 := by
  rcases pre_drop (b := b) L with h | ⟨x, xs, h, hx⟩
  · rw [h]; rfl
  · rw [h]
    have hm : x ∈ dsc (x :: xs) := dsc_mem.mpr List.mem_cons_self
    have hs := dsc_ds (x :: xs)
    cases e : dsc (x :: xs) with
    | nil => rfl
    | cons y ys =>
      rw [e] at hm hs
      have hy : x ≤ y := by
        rcases List.mem_cons.mp hm with rfl | hm
        · exact Nat.le_refl _
        · exact (List.pairwise_cons.mp hs).1 x hm
      rw [pre, if_neg]
      have := Nat.div_le_div_right (c := 1200) hy
      omega
theorem chn_walk {T : QT} : ∀ {es : List Nat} {P P4 : List Nd} {a r w : Nat}, Pw T P → Pd P → a < P.length → (nd P a).2.2.2.2.2.2 = w → okL w es → chn w P a es = some (r, P4) → ∀ L, rwS (r + 1) P4 r L = rwS (a + 1) P4 a (es ++ L)
  | [], P, P4, a, r, w, hw, hd, ha, ew, hL, h, L => by
    rw [chn] at h
    cases h
    rfl
  | e :: es, P, P4, a, r, w, hw, hd, ha, ew, hL, h, L => by
    obtain ⟨y1, y2, y3, y4, y5⟩ := chn_ok hw hd ha ew hL h
    rw [chn] at h
    cases em : mk P (fq a e w) with
    | none => rw [em] at h; cases h
    | some q =>
      rw [em] at h
      have h2 : chn w q.2 q.1 es = some (r, P4) := h
      have he := hL e List.mem_cons_self
      have hq : nW T P P.length (fq a e w) := by
        rw [← ew]
        exact fq_w hw ha (by rw [ew]; exact he.1) he.2
      obtain ⟨m1, m2, m3, m4, m5⟩ := mk_ok hw hd hq (i := q.1) (P1 := q.2) em
      have mw := mk_w hw hd hq (i := q.1) (P1 := q.2) em
      have ih := chn_walk m1 m2 m4 mw (fun e he => hL e (List.mem_cons_of_mem _ he)) h2 L
      have hx := chn_xp h2
      have en : nd P4 q.1 = nd q.2 q.1 := hx.g m4
      have s1 : (nd P4 q.1).1 = 1 := by rw [en]; exact (six_w m5).1
      have s2 : (nd P4 q.1).2.1 = a := by rw [en]; exact (six_w m5).2.1
      have s3 : qco (nd P4 q.1) = e := by rw [en]; exact qco_fq he.2 m5
      have i4 : q.1 < P4.length := Nat.lt_of_lt_of_le m4 hx.le
      have hlt : a < q.1 := by
        have := (y1.2 q.1 i4).2.2.2.1 (by rw [s1]; omega)
        rwa [s2] at this
      rw [ih, rwS_f s1, s2, s3]
      exact rw_f _ _ y1.sw (by omega) hlt (by omega)
/-- a rewriting of a node that is no filter, in its steps -/
def Dec9 (T : QT) (f : Nat) (P : List Nd) (n : Nat) (L : List Nat) (r : Nat) (P4 : List Nd) (a b c : Nat) (P1 P2 P3 : List Nd) : Prop :=
  (((nd P n).1 = 0 ∧ a = (nd P n).2.1 ∧ P1 = P) ∨ (¬ (nd P n).1 = 0 ∧ rwS f P (nd P n).2.1 (cF P n L) = some (a, P1))) ∧
  (((nd P n).2.2.1 = 0 ∧ b = 0 ∧ P2 = P1) ∨ (¬ (nd P n).2.2.1 = 0 ∧ ∃ b0, b = b0 + 1 ∧ rwS f P1 ((nd P n).2.2.1 - 1) (cS P n L) = some (b0, P2))) ∧
  chn (nd P n).2.2.2.2.2.2 P3 c (dsc (L.drop (fre P n L))) = some (r, P4) ∧
  (Pw T P1 ∧ Pd P1 ∧ XP P P1 ∧ ((nd P n).1 ≠ 0 → a < P1.length ∧ (nd P1 a).2.2.2.2.2.2 = (nd P (nd P n).2.1).2.2.2.2.2.2)) ∧
  (Pw T P2 ∧ Pd P2 ∧ XP P1 P2 ∧ ((nd P n).2.2.1 ≠ 0 → b - 1 < P2.length ∧ (nd P2 (b - 1)).2.2.2.2.2.2 = (nd P ((nd P n).2.2.1 - 1)).2.2.2.2.2.2)) ∧
  (Pw T P3 ∧ Pd P3 ∧ XP P2 P3 ∧ c < P3.length ∧ six (nd P3 c) = six (rb (nd P n) a b) ∧ (nd P3 c).2.2.2.2.2.2 = (nd P n).2.2.2.2.2.2) ∧
  Pw T P4 ∧ Pd P4 ∧ XP P3 P4 ∧ r < P4.length
theorem rw_dec {T : QT} {f : Nat} {P P4 : List Nd} {n r : Nat} {L : List Nat} (hw : Pw T P) (hd : Pd P) (hn : n < P.length) (hL : okL (nd P n).2.2.2.2.2.2 L) (e : ¬ (nd P n).1 = 1) (h : rwS (f + 1) P n L = some (r, P4)) : ∃ a b c P1 P2 P3, Dec9 T f P n L r P4 a b c P1 P2 P3 := by
  have hW := hw.2 n hn
  have hab := hW.ab
  obtain ⟨a, b, c, P1, P2, P3, h1, h2, h3, h4⟩ := (rwS_s e).mp h
  have s1 : Pw T P1 ∧ Pd P1 ∧ XP P P1 ∧ ((nd P n).1 = 0 → a = (nd P n).2.1) ∧ ((nd P n).1 ≠ 0 → a < P1.length ∧ (nd P1 a).2.2.2.2.2.2 = (nd P (nd P n).2.1).2.2.2.2.2.2) := by
    rcases h1 with ⟨e0, e1, e2⟩ | ⟨e0, e1⟩
    · rw [e2]; exact ⟨hw, hd, XP.rf _, fun _ => e1, fun z => absurd e0 z⟩
    · obtain ⟨x1, x2, x3, x4, x5⟩ := rw_ok hw hd (by have := hab.1 e0; omega) (cF_ok hw hn hL) e1
      exact ⟨x1, x2, x3, fun z => absurd z e0, fun _ => ⟨x4, x5⟩⟩
  obtain ⟨w1, d1, x1, a0, a1⟩ := s1
  have hl1 := x1.le
  have s2 : Pw T P2 ∧ Pd P2 ∧ XP P1 P2 ∧ ((nd P n).2.2.1 = 0 → b = 0) ∧ ((nd P n).2.2.1 ≠ 0 → b ≠ 0 ∧ b - 1 < P2.length ∧ (nd P2 (b - 1)).2.2.2.2.2.2 = (nd P ((nd P n).2.2.1 - 1)).2.2.2.2.2.2) := by
    rcases h2 with ⟨e0, e1, e2⟩ | ⟨e0, b0, e1, e2⟩
    · rw [e2]; exact ⟨w1, d1, XP.rf _, fun _ => e1, fun z => absurd e0 z⟩
    · have hb := hab.2 e0
      have eb : nd P1 ((nd P n).2.2.1 - 1) = nd P ((nd P n).2.2.1 - 1) := x1.g (by omega)
      obtain ⟨y1, y2, y3, y4, y5⟩ := rw_ok w1 d1 (by omega) (by rw [eb]; exact cS_ok hw hn e0 hL) e2
      rw [eb] at y5
      refine ⟨y1, y2, y3, fun z => absurd z e0, fun _ => ⟨by omega, by rw [e1]; exact y4, by rw [e1]; exact y5⟩⟩
  obtain ⟨w2, d2, x2, b0, b1⟩ := s2
  have hl2 := x2.le
  have hq : nW T P2 P2.length (rb (nd P n) a b) := rb_w hW w2 a0 (fun z => ⟨by have := (a1 z).1; omega, by rw [x2.g (a1 z).1]; exact (a1 z).2⟩) b0 b1
  obtain ⟨w3, d3, x3, c3, s3⟩ := mk_ok w2 d2 hq h3
  have cw := mk_w w2 d2 hq h3
  obtain ⟨w4, d4, x4, c4, r4⟩ := chn_ok w3 d3 c3 cw (okL_dsc (okL_drop hL)) h4
  exact ⟨a, b, c, P1, P2, P3, h1, h2, h4, ⟨w1, d1, x1, a1⟩, ⟨w2, d2, x2, fun z => ⟨(b1 z).2.1, (b1 z).2.2⟩⟩, ⟨w3, d3, x3, c3, s3, cw⟩, w4, d4, x4, c4⟩
theorem rw_again {T : QT} : ∀ {f : Nat} {P P1 : List Nd} {n r : Nat} {L : List Nat}, Pw T P → Pd P → n < P.length → okL (nd P n).2.2.2.2.2.2 L → rwS f P n L = some (r, P1) → rwS (r + 1) P1 r [] = some (r, P1)
  | 0, P, P1, n, r, L, hw, hd, hn, hL, h => by cases h
  | f + 1, P, P4, n, r, L, hw, hd, hn, hL, h => by
    have hW := hw.2 n hn
    have hab := hW.ab
    by_cases e : (nd P n).1 = 1
    · rw [rwS_f e] at h
      have ha := hab.1 (by omega)
      exact rw_again hw hd (by omega) (qc_ok hw hn e hL) h
    · obtain ⟨a, b, c, P1, P2, P3, h1, h2, h4, ⟨w1, d1, x1, a1⟩, ⟨w2, d2, x2, b1⟩, ⟨w3, d3, x3, c3, s3, cw⟩, w4, d4, x4, r4⟩ := rw_dec hw hd hn hL e h
      have hl1 := x1.le
      have hl2 := x2.le
      have hl3 := x3.le
      have hl4 := x4.le
      have c4 : c < P4.length := by omega
      have ec : nd P4 c = nd P3 c := x4.g c3
      have z24 : XP P2 P4 := x3.tr x4
      have z14 : XP P1 P4 := x2.tr z24
      obtain ⟨t1, t2, t3, t4, t5, t6⟩ := six_w s3
      rw [← ec] at t1 t2 t3 t4 t5 t6 cw s3
      have t1 : (nd P4 c).1 = (nd P n).1 := t1
      have t2 : (nd P4 c).2.1 = a := t2
      have t3 : (nd P4 c).2.2.1 = b := t3
      have t4 : (nd P4 c).2.2.2.1 = (nd P n).2.2.2.1 := t4
      have hWc := w4.2 c c4
      have hL4 := okL_dsc (okL_drop (n := fre P n L) hL)
      rw [chn_walk w3 d3 c3 (by rw [← ec]; exact cw) hL4 h4, List.append_nil]
      have aw : (nd P n).1 ≠ 0 → (nd P4 a).2.2.2.2.2.2 = (nd P (nd P n).2.1).2.2.2.2.2.2 := fun z => by rw [z14.g (a1 z).1]; exact (a1 z).2
      have f0 : fre P4 c (dsc (L.drop (fre P n L))) = 0 := by
        unfold fre
        rw [t1, t4, t2]
        by_cases e2 : (nd P n).1 = 2
        · rw [if_pos e2, if_pos e2]
          by_cases e3 : (nd P n).2.2.2.1 = 0
          · rw [if_pos e3, if_pos e3, List.drop_length]; rfl
          · rw [if_neg e3, if_neg e3, aw (by omega)]
            exact pre_dsc L
        · rw [if_neg e2, if_neg e2]
          by_cases e4 : (nd P n).1 = 4 ∧ (nd P n).2.2.2.1 = 0
          · rw [if_pos e4, if_pos e4, List.drop_length]; rfl
          · rw [if_neg e4]
      have cF0 : cF P4 c (dsc (L.drop (fre P n L))) = [] := by
        unfold cF
        rw [f0, List.take_zero]
        split <;> rfl
      have cS0 : cS P4 c (dsc (L.drop (fre P n L))) = [] := by
        unfold cS
        rw [f0, List.take_zero]
        split <;> rfl
      refine (rwS_s (by rw [t1]; exact e)).mpr ⟨a, b, c, P4, P4, P4, ?_, ?_, ?_, ?_⟩
      · rcases h1 with ⟨e0, e1, e2⟩ | ⟨e0, e1⟩
        · exact Or.inl ⟨by rw [t1]; exact e0, t2.symm, rfl⟩
        · refine Or.inr ⟨by rw [t1]; exact e0, ?_⟩
          have ih := rw_again hw hd (by have := hab.1 e0; omega) (cF_ok hw hn hL) e1
          have lac : a < c := by
            have := hWc.2.2.2.1 (by rw [t1]; exact e0)
            rwa [t2] at this
          rw [t2, cF0, rw_f c (a + 1) w4.sw (by omega) lac (by omega)]
          exact rw_x w1.sw (a1 e0).1 ih z14
      · rcases h2 with ⟨e0, e1, e2⟩ | ⟨e0, b0, e1, e2⟩
        · exact Or.inl ⟨by rw [t3]; exact e1, e1, rfl⟩
        · have hb := hab.2 e0
          have eb : nd P1 ((nd P n).2.2.1 - 1) = nd P ((nd P n).2.2.1 - 1) := x1.g (by omega)
          have ih := rw_again w1 d1 (by omega) (by rw [eb]; exact cS_ok hw hn e0 hL) e2
          have tb : ¬ (nd P4 c).2.2.1 = 0 := by rw [t3]; omega
          have lbc : b0 < c := by
            have := hWc.ab.2 tb
            rw [t3] at this
            omega
          have lb : b0 < P2.length := by
            have := (b1 e0).1
            omega
          refine Or.inr ⟨tb, b0, e1, ?_⟩
          rw [t3, cS0, show b - 1 = b0 by omega, rw_f c (b0 + 1) w4.sw (by omega) lbc (by omega)]
          exact rw_x w2.sw lb ih z24
      · have ef : fnd P4 (rb (nd P4 c) a b) = some c := by
          have e9 : rb (nd P4 c) a b = nd P4 c := by
            unfold rb
            rw [← t2, ← t3]
          rw [e9]
          exact d4 c c4
        unfold mk
        rw [ef]
      · rw [f0, List.drop_zero, dsc_id (dsc_ds _), cw]
        exact chn_x h4 (fun Q j Q1 q hq => mk_xp hq) (XP.rf _)
