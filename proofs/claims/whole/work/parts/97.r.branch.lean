/-! pure: a node's rewriting, branch for branch, in the reference -/
section BR
variable {T : QT} {P0 : List Nd} {DN : List (Nat × List Nat)} {DL : List (List Nat)} {R : RS} {X : Option (List Nd)} {n r : Nat} {L : List Nat} {rec : Rec9}
theorem rx_s {r1 : Option (Nat × List Nd)} (hw0 : Pw T P0) (hG : GX T P0 R X) (hn : n < P0.length) (e0 : (nd P0 n).1 ≠ 0) (e1 : (nd P0 n).1 ≠ 1) (h1 : rx X (nd P0 n).2.1 (cF P0 n L) = r1) : rx X n L = r1.bind (fun q => if (nd P0 n).2.2.1 = 0 then Zt P0 n L q.1 0 q.2 else (rx (some q.2) ((nd P0 n).2.2.1 - 1) (cS P0 n L)).bind (fun r2 => Zt P0 n L q.1 (r2.1 + 1) r2.2)) := by
  subst h1
  cases X with
  | none => rfl
  | some P => exact rw1_s hw0.sw (hG P rfl).1 hn e0 e1
theorem tail1 {S : QS} {I : QI} {R1 : RS} {r1 : Option (Nat × List Nd)} {post : Int32 → QS → QI → Prop} (hwT : Tw T) (hw0 : Pw T P0) (hG : GX T P0 R X) (hn : n < P0.length) (e0 : (nd P0 n).1 ≠ 0) (e1 : (nd P0 n).1 ≠ 1) (hb : ¬ ((nd P0 n).1 = 4 ∧ (nd P0 n).2.2.2.1 = 0)) (eb : (nd P0 n).2.2.1 = 0) (h1 : rx X (nd P0 n).2.1 (cF P0 n L) = r1) (hok : okL (nd P0 n).2.2.2.2.2.2 L) (hl : L.length ≤ 23) (hA : At T P0 S I R1 (xo r1)) (hr : r ≤ R1.1.length) (hL : lcn R1.1 r = L) (h : ∀ I2, At T P0 S I2 R1 (xo (rx X n L)) → FR I I2 → post (mo (rx X n L)) S I2) : tl9 (nI n) (sB r) (mo r1) (sB 0) S I post := by
  have h24 := hw0.1
  have ha := (hw0.2 n hn).ab.1 e0
  rw [rx_s hw0 hG hn e0 e1 h1] at h
  simp only [if_pos eb] at h
  cases r1 with
  | none => exact m_tail_full hA hn (by omega) hr hL hl h
  | some q =>
    obtain ⟨a, P1⟩ := q
    obtain ⟨P, eX, -, x1, x01, w1, d1, a1, a2⟩ := rx_ok hG (by omega) (cF_ok hw0 hn hok) h1
    exact m_tail_some hwT hA x01 w1 d1 hn hb (rb_a hw0 hn e0 w1 a1 a2 (fun _ => rfl) (fun z => absurd eb z)) hr hL hl hok hw0.sw h
theorem tail2 {S : QS} {I : QI} {R1 : RS} {r1 r2 : Option (Nat × List Nd)} {post : Int32 → QS → QI → Prop} (hwT : Tw T) (hw0 : Pw T P0) (hG : GX T P0 R X) (hG1 : GX T P0 R1 (xo r1)) (hn : n < P0.length) (e0 : (nd P0 n).1 ≠ 0) (e1 : (nd P0 n).1 ≠ 1) (hb : ¬ ((nd P0 n).1 = 4 ∧ (nd P0 n).2.2.2.1 = 0)) (eb : (nd P0 n).2.2.1 ≠ 0) (h1 : rx X (nd P0 n).2.1 (cF P0 n L) = r1) (h2 : rx (xo r1) ((nd P0 n).2.2.1 - 1) (cS P0 n L) = r2) (hok : okL (nd P0 n).2.2.2.2.2.2 L) (hl : L.length ≤ 23) {R2 : RS} (hA : At T P0 S I R2 (xo r2)) (hr : r ≤ R2.1.length) (hL : lcn R2.1 r = L) (h : ∀ I2, At T P0 S I2 R2 (xo (rx X n L)) → FR I I2 → post (mo (rx X n L)) S I2) : tl9 (nI n) (sB r) (mo r1) (mo r2) S I post := by
  have h24 := hw0.1
  have ha := (hw0.2 n hn).ab.1 e0
  have hbn := (hw0.2 n hn).ab.2 eb
  rw [rx_s hw0 hG hn e0 e1 h1] at h
  simp only [if_neg eb] at h
  cases r1 with
  | none =>
    have e : r2 = none := h2.symm
    subst e
    exact m_tail_full hA hn (by omega) hr hL hl h
  | some q =>
    obtain ⟨a, P1⟩ := q
    obtain ⟨P, eX, -, x1, x01, w1, d1, a1, a2⟩ := rx_ok hG (by omega) (cF_ok hw0 hn hok) h1
    have h2 : rx (some P1) ((nd P0 n).2.2.1 - 1) (cS P0 n L) = r2 := h2
    replace h : ∀ I2, At T P0 S I2 R2 (xo ((rx (some P1) ((nd P0 n).2.2.1 - 1) (cS P0 n L)).bind (fun r2 => Zt P0 n L a (r2.1 + 1) r2.2))) → FR I I2 → post (mo ((rx (some P1) ((nd P0 n).2.2.1 - 1) (cS P0 n L)).bind (fun r2 => Zt P0 n L a (r2.1 + 1) r2.2))) S I2 := h
    rw [h2] at h
    cases r2 with
    | none => exact m_tail_full hA hn (by omega) hr hL hl h
    | some q2 =>
      obtain ⟨b, P2⟩ := q2
      obtain ⟨P', eX', -, x2, x02, w2, d2, b1, b2⟩ := rx_ok (X := some P1) hG1 (by omega) (cS_ok hw0 hn eb hok) h2
      cases eX'
      have hl2 : P1.length ≤ P2.length := x2.le
      exact m_tail_some (b := b + 1) hwT hA x02 w2 d2 hn hb (rb_a (a := a) (b := b + 1) hw0 hn e0 w2 (Nat.lt_of_lt_of_le a1 hl2) (by rw [x2.g a1]; exact a2) (fun z => absurd z eb) (fun _ => ⟨Nat.succ_ne_zero b, b1, b2⟩)) hr hL hl hok hw0.sw h
/-- the plan at the end -/
theorem gx_fin {R1 R2 : RS} {X2 : Option (List Nd)} {r1 : Option (Nat × List Nd)} (hw0 : Pw T P0) (hG : GX T P0 R X) (hG1 : GX T P0 R1 (xo r1)) (hK2 : RK P0 DN DL R2) (hG2 : GX T P0 R2 X2) (hn : n < P0.length) (e0 : (nd P0 n).1 ≠ 0) (e1 : (nd P0 n).1 ≠ 1) (h1 : rx X (nd P0 n).2.1 (cF P0 n L) = r1) (h2 : X2 = if (nd P0 n).2.2.1 = 0 then xo r1 else xo (rx (xo r1) ((nd P0 n).2.2.1 - 1) (cS P0 n L))) (hok : okL (nd P0 n).2.2.2.2.2.2 L) : GX T P0 R2 (xo (rx X n L)) := by
  have h24 := hw0.1
  have ha := (hw0.2 n hn).ab.1 e0
  refine hG2.up hw0.sw hK2 (fun P4 h4 => ?_)
  rw [rx_s hw0 hG hn e0 e1 h1] at h4
  cases r1 with
  | none => cases h4
  | some q =>
    obtain ⟨a, P1⟩ := q
    obtain ⟨P, eX, -, x1, x01, w1, d1, a1, a2⟩ := rx_ok hG (by omega) (cF_ok hw0 hn hok) h1
    replace h4 : xo (if (nd P0 n).2.2.1 = 0 then Zt P0 n L a 0 P1 else (rx (some P1) ((nd P0 n).2.2.1 - 1) (cS P0 n L)).bind (fun r2 => Zt P0 n L a (r2.1 + 1) r2.2)) = some P4 := h4
    by_cases eb : (nd P0 n).2.2.1 = 0
    · rw [if_pos eb] at h4 h2
      cases ez : Zt P0 n L a 0 P1 with
      | none => rw [ez] at h4; cases h4
      | some z =>
        rw [ez] at h4
        cases h4
        obtain ⟨y1, y2, y3⟩ := Zt_ok w1 d1 (rb_a hw0 hn e0 w1 a1 a2 (fun _ => rfl) (fun z => absurd eb z)) hok ez
        exact ⟨P1, h2, y1, y2, y3⟩
    · rw [if_neg eb] at h4 h2
      have hbn := (hw0.2 n hn).ab.2 eb
      have h2 : X2 = xo (rx (some P1) ((nd P0 n).2.2.1 - 1) (cS P0 n L)) := h2
      cases er : rx (some P1) ((nd P0 n).2.2.1 - 1) (cS P0 n L) with
      | none => rw [er] at h4; cases h4
      | some q2 =>
        obtain ⟨b, P2⟩ := q2
        rw [er] at h4 h2
        obtain ⟨P', eX', -, x2, x02, w2, d2, b1, b2⟩ := rx_ok (X := some P1) hG1 (by omega) (cS_ok hw0 hn eb hok) er
        cases eX'
        have hl2 : P1.length ≤ P2.length := x2.le
        replace h4 : xo (Zt P0 n L a (b + 1) P2) = some P4 := h4
        cases ez : Zt P0 n L a (b + 1) P2 with
        | none => rw [ez] at h4; cases h4
        | some z =>
          rw [ez] at h4
          cases h4
          obtain ⟨y1, y2, y3⟩ := Zt_ok w2 d2 (rb_a (a := a) (b := b + 1) hw0 hn e0 w2 (Nat.lt_of_lt_of_le a1 hl2) (by rw [x2.g a1]; exact a2) (fun z => absurd z eb) (fun _ => ⟨Nat.succ_ne_zero b, b1, b2⟩)) hok ez
          exact ⟨P2, h2, y1, y2, y3⟩
end BR
