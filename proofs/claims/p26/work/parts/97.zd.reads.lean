/-! pure: the calls that change nothing: what they answer follows from the state -/
/-- nothing of what lies behind the object is written -/
def Fr9 (I I2 : QI) : Prop := ∀ b, 51 ≤ b → I2 b = I b
/-- a call that answers r and comes from the state Z to Z2 -/
def Sp9 (i j : Nat) (Z Z2 : Zs) (r : Int32) (w : QI → (Int32 → QI → Prop) → Prop) : Prop := ∀ (I : QI) (post : Int32 → QI → Prop), Rc I Z i → (∀ I2, Rc I2 Z2 j → Fr9 I I2 → post r I2) → w I post
theorem Fr9.rf (I : QI) : Fr9 I I := fun _ _ => rfl
theorem Fr9.tr {I I2 I3 : QI} (h : Fr9 I I2) (h2 : Fr9 I2 I3) : Fr9 I I3 := fun b hb => (h2 b hb).trans (h b hb)
def rowsR (Z : Zs) (m : Nat) : Int32 := if psb Z.1 Z.2.1 m Z.2.2.1 = true then nI (oL (EV Z.1 Z.2.1 m)) else -99999
def stepsR (Z : Zs) (m : Nat) : Int32 := if psb Z.1 Z.2.1 m Z.2.2.1 = true then nI (ST Z.1 Z.2.1 m) else -99999
def sameRR (Z : Zs) (m o : Nat) : Int32 := if (psb Z.1 Z.2.1 m Z.2.2.1 && psb Z.1 Z.2.1 o Z.2.2.1) = true then bI (sameR Z.1 Z.2.1 m o) else -99999
theorem psb_200 {T : QT} {P : List Nd} {m : Nat} {L : List (List Int32)} (hw : Pw T P) (hm : m < P.length) (e : EV T P m = some L) : L.length ≤ 200 := by
  obtain ⟨A, B, -, -, -, h⟩ := EV_some hw hm e
  exact h
section RD
variable {Z : Zs} {i m : Nat} {a : Int32}
theorem c_rows_t (hw : Rw Z) (hi : i < 512) (hm : m < Z.2.1.length) : Sp9 i i Z Z (rowsR Z m) (wL_rows (nI m)) := by
  obtain ⟨T, P, bu, Kk, Vv⟩ := Z
  obtain ⟨hwT, hwP, hd, hbu, hw5⟩ := hw
  replace hwP : Pw T P := hwP
  replace hm : m < P.length := hm
  have h24 := hwP.1
  intro I post hRc h
  obtain ⟨c1, hPc, ⟨ch, ch0, c3⟩, c4, c5, c6⟩ := id hRc
  replace hPc : Pc I P := hPc
  replace c4 : I 0 6 = nI bu := c4
  unfold wL_rows wX7_rows
  rw [c4]
  refine p_has hPc hwP hm ⟨fun _ => ?_, fun z => absurd z (by decide)⟩
  refine p_isPossible c1 hwT hPc hwP c3 (by omega) hm hbu (fun I2 hF hCa hO h27 => ?_)
  have h2 := h I2 (hRc.ps hF hCa ch0) (fun b hb => hF b (by omega))
  cases hps : psb T P m bu
  · have e : rowsR (T, P, bu, Kk, Vv) m = -99999 := if_neg (by show ¬ psb T P m bu = true; rw [hps]; decide)
    rw [e] at h2
    exact ⟨fun z => absurd rfl z, fun _ => Or.inr ⟨rfl, h2⟩⟩
  · obtain ⟨⟨L, eL⟩, hST⟩ := psb_t hps
    have e : rowsR (T, P, bu, Kk, Vv) m = nI L.length := by
      refine (if_pos hps).trans ?_
      show nI (oL (EV T P m)) = _
      rw [eL]
      rfl
    have e25 : I2 25 m = nI L.length := (hO.s eL).1.1
    rw [e, ← e25] at h2
    exact ⟨fun _ => p_countOf (by omega) h2, fun z => absurd z (by decide)⟩
theorem c_rows_f (hx : a < 0 ∨ nI Z.2.1.length ≤ a) : Sp9 i i Z Z (-99999) (wL_rows a) := by
  intro I post hRc h
  obtain ⟨c1, hPc, -⟩ := id hRc
  unfold wL_rows wX7_rows
  exact p_has_f hPc hx ⟨fun z => absurd rfl z, fun _ => Or.inl ⟨rfl, h I hRc (Fr9.rf I)⟩⟩
theorem c_steps_t (hw : Rw Z) (hi : i < 512) (hm : m < Z.2.1.length) : Sp9 i i Z Z (stepsR Z m) (wL_steps (nI m)) := by
  obtain ⟨T, P, bu, Kk, Vv⟩ := Z
  obtain ⟨hwT, hwP, hd, hbu, hw5⟩ := hw
  replace hwP : Pw T P := hwP
  replace hm : m < P.length := hm
  replace hbu : bu ≤ 100000 := hbu
  have h24 := hwP.1
  intro I post hRc h
  obtain ⟨c1, hPc, ⟨ch, ch0, c3⟩, c4, c5, c6⟩ := id hRc
  replace hPc : Pc I P := hPc
  replace c4 : I 0 6 = nI bu := c4
  unfold wL_steps wX7_steps
  rw [c4]
  refine p_has hPc hwP hm ⟨fun _ => ?_, fun z => absurd z (by decide)⟩
  refine p_isPossible c1 hwT hPc hwP c3 (by omega) hm hbu (fun I2 hF hCa hO h27 => ?_)
  have h2 := h I2 (hRc.ps hF hCa ch0) (fun b hb => hF b (by omega))
  cases hps : psb T P m bu
  · have e : stepsR (T, P, bu, Kk, Vv) m = -99999 := if_neg (by show ¬ psb T P m bu = true; rw [hps]; decide)
    rw [e] at h2
    exact ⟨fun z => absurd rfl z, fun _ => Or.inr ⟨rfl, h2⟩⟩
  · obtain ⟨⟨L, eL⟩, hST⟩ := psb_t hps
    have e : stepsR (T, P, bu, Kk, Vv) m = nI (ST T P m) := if_pos hps
    have e26 : I2 26 m = nI (ST T P m) := by
      have q : min (ST T P m) 100001 = ST T P m := by omega
      exact ((hO.s eL).2).trans (congrArg nI q)
    rw [e, ← e26] at h2
    exact ⟨fun _ => p_stepsOf (by omega) h2, fun z => absurd z (by decide)⟩
theorem c_steps_f (hx : a < 0 ∨ nI Z.2.1.length ≤ a) : Sp9 i i Z Z (-99999) (wL_steps a) := by
  intro I post hRc h
  obtain ⟨c1, hPc, -⟩ := id hRc
  unfold wL_steps wX7_steps
  exact p_has_f hPc hx ⟨fun z => absurd rfl z, fun _ => Or.inl ⟨rfl, h I hRc (Fr9.rf I)⟩⟩
abbrev wNode (a b : Int32) : QI → (Int32 → QI → Prop) → Prop := fun I post => wL_node a b I (fun r => post r I)
theorem c_node_0 (hw : Rw Z) (hm : m < Z.2.1.length) : Sp9 i i Z Z (nI (nd Z.2.1 m).1) (wNode (nI m) 0) := by
  intro I post hRc h
  have h9 := h I hRc (Fr9.rf I)
  obtain ⟨c1, hPc, -⟩ := id hRc
  show wL_node _ _ _ _
  unfold wL_node wX7_node
  exact p_has hPc hw.2.1 hm ⟨fun _ => ⟨fun _ => p_typeOf hPc hw.2.1 hm h9, fun z => absurd z (by decide), fun z => absurd z (by decide), fun z => absurd z (by decide), fun z => absurd rfl z⟩, fun z => absurd z (by decide)⟩
theorem c_node_1 (hw : Rw Z) (hm : m < Z.2.1.length) : Sp9 i i Z Z (nI (nd Z.2.1 m).2.1) (wNode (nI m) 1) := by
  intro I post hRc h
  have h9 := h I hRc (Fr9.rf I)
  obtain ⟨c1, hPc, -⟩ := id hRc
  show wL_node _ _ _ _
  unfold wL_node wX7_node
  exact p_has hPc hw.2.1 hm ⟨fun _ => ⟨fun z => absurd z (by decide), fun _ => p_firstOf hPc hw.2.1 hm h9, fun z => absurd z (by decide), fun z => absurd z (by decide), fun _ z => absurd rfl z⟩, fun z => absurd z (by decide)⟩
theorem c_node_2 (hw : Rw Z) (hm : m < Z.2.1.length) : Sp9 i i Z Z (sB (nd Z.2.1 m).2.2.1) (wNode (nI m) 2) := by
  intro I post hRc h
  have h9 := h I hRc (Fr9.rf I)
  obtain ⟨c1, hPc, -⟩ := id hRc
  show wL_node _ _ _ _
  unfold wL_node wX7_node
  exact p_has hPc hw.2.1 hm ⟨fun _ => ⟨fun z => absurd z (by decide), fun z => absurd z (by decide), fun _ => p_secondOf hPc hw.2.1 hm h9, fun z => absurd z (by decide), fun _ _ z => absurd rfl z⟩, fun z => absurd z (by decide)⟩
theorem c_node_3 (hw : Rw Z) (hm : m < Z.2.1.length) : Sp9 i i Z Z (nI (nd Z.2.1 m).2.2.2.2.2.2) (wNode (nI m) 3) := by
  intro I post hRc h
  have h9 := h I hRc (Fr9.rf I)
  obtain ⟨c1, hPc, -⟩ := id hRc
  show wL_node _ _ _ _
  unfold wL_node wX7_node
  exact p_has hPc hw.2.1 hm ⟨fun _ => ⟨fun z => absurd z (by decide), fun z => absurd z (by decide), fun z => absurd z (by decide), fun _ => p_widthOf hPc hw.2.1 hm h9, fun _ _ _ z => absurd rfl z⟩, fun z => absurd z (by decide)⟩
theorem c_node_b {x : Int32} (hw : Rw Z) (hm : m < Z.2.1.length) (h0 : ¬ x = 0) (h1 : ¬ x = 1) (h2 : ¬ x = 2) (h3 : ¬ x = 3) : Sp9 i i Z Z (-99999) (wNode (nI m) x) := by
  intro I post hRc h
  have h9 := h I hRc (Fr9.rf I)
  obtain ⟨c1, hPc, -⟩ := id hRc
  show wL_node _ _ _ _
  unfold wL_node wX7_node
  exact p_has hPc hw.2.1 hm ⟨fun _ => ⟨fun z => absurd z h0, fun z => absurd z h1, fun z => absurd z h2, fun z => absurd z h3, fun _ _ _ _ => Or.inr ⟨rfl, h9⟩⟩, fun z => absurd z (by decide)⟩
theorem c_node_f {x : Int32} (hx : a < 0 ∨ nI Z.2.1.length ≤ a) : Sp9 i i Z Z (-99999) (wNode a x) := by
  intro I post hRc h
  have h9 := h I hRc (Fr9.rf I)
  obtain ⟨c1, hPc, -⟩ := id hRc
  show wL_node _ _ _ _
  unfold wL_node wX7_node
  exact p_has_f hPc hx ⟨fun z => absurd rfl z, fun _ => Or.inl ⟨rfl, h9⟩⟩
theorem c_node (hw : Rw Z) (a x : Int32) : ∃ r, Sp9 i i Z Z r (wNode a x) := by
  have h24 := hw.2.1.1
  rcases ixc a Z.2.1.length (by omega) with ⟨m, hm, rfl⟩ | hx
  · by_cases h0 : x = 0
    · subst h0; exact ⟨_, c_node_0 hw hm⟩
    by_cases h1 : x = 1
    · subst h1; exact ⟨_, c_node_1 hw hm⟩
    by_cases h2 : x = 2
    · subst h2; exact ⟨_, c_node_2 hw hm⟩
    by_cases h3 : x = 3
    · subst h3; exact ⟨_, c_node_3 hw hm⟩
    exact ⟨_, c_node_b hw hm h0 h1 h2 h3⟩
  · exact ⟨_, c_node_f hx⟩
theorem c_rows (hw : Rw Z) (hi : i < 512) (a : Int32) : ∃ r, Sp9 i i Z Z r (wL_rows a) := by
  have h24 := hw.2.1.1
  rcases ixc a Z.2.1.length (by omega) with ⟨m, hm, rfl⟩ | hx
  · exact ⟨_, c_rows_t hw hi hm⟩
  · exact ⟨_, c_rows_f hx⟩
theorem c_steps (hw : Rw Z) (hi : i < 512) (a : Int32) : ∃ r, Sp9 i i Z Z r (wL_steps a) := by
  have h24 := hw.2.1.1
  rcases ixc a Z.2.1.length (by omega) with ⟨m, hm, rfl⟩ | hx
  · exact ⟨_, c_steps_t hw hi hm⟩
  · exact ⟨_, c_steps_f hx⟩
/-- a row behind the last one isn't there -/
theorem c_past (hw : Rw Z) (hi : i < 512) (hm : m < Z.2.1.length) (hp : psb Z.1 Z.2.1 m Z.2.2.1 = true) : Sp9 i i Z Z (-99999) (wL_value (nI m) (rowsR Z m) 0) := by
  obtain ⟨T, P, bu, Kk, Vv⟩ := Z
  obtain ⟨hwT, hwP, hd, hbu, hw5⟩ := hw
  replace hwP : Pw T P := hwP
  replace hm : m < P.length := hm
  replace hp : psb T P m bu = true := hp
  have h24 := hwP.1
  obtain ⟨⟨L, eL⟩, hST⟩ := psb_t hp
  have e : rowsR (T, P, bu, Kk, Vv) m = nI L.length := by
    refine (if_pos hp).trans ?_
    show nI (oL (EV T P m)) = _
    rw [eL]
    rfl
  rw [e]
  intro I post hRc h
  obtain ⟨c1, hPc, ⟨ch, ch0, c3⟩, c4, c5, c6⟩ := id hRc
  replace hPc : Pc I P := hPc
  replace c4 : I 0 6 = nI bu := c4
  have w1 := (hwP.2 m hm).1.2.2.2.2.2.1
  unfold wL_value wX7_cell
  rw [c4]
  refine p_col (c := 0) hPc hwP hm (by omega) ⟨fun z => absurd z (by decide), fun _ => ⟨fun _ => ?_, fun _ => Or.inl ⟨rfl, h I hRc (Fr9.rf I)⟩⟩⟩
  refine p_isPossible c1 hwT hPc hwP c3 (by omega) hm hbu (fun I2 hF hCa hO h27 => ?_)
  have h2 := h I2 (hRc.ps hF hCa ch0) (fun b hb => hF b (by omega))
  rw [hp]
  have e25 : I2 25 m = nI L.length := (hO.s eL).1.1
  refine ⟨fun _ => p_countOf (by omega) ?_, fun z => absurd z (by decide)⟩
  rw [e25]
  exact ⟨fun z => absurd z (fun y => absurd y (Int32.not_lt.2 (Int32.le_refl _))), fun _ => Or.inl ⟨rfl, h2⟩⟩
theorem c_value (hw : Rw Z) (hi : i < 512) (a1 a2 a3 : Int32) : ∃ r, Sp9 i i Z Z r (wL_value a1 a2 a3) := by
  obtain ⟨T, P, bu, Kk, Vv⟩ := Z
  obtain ⟨hwT, hwP, hd, hbu, hw5⟩ := hw
  replace hwP : Pw T P := hwP
  have h24 := hwP.1
  rcases ixc a1 P.length (by omega) with ⟨m, hm, rfl⟩ | hx
  · have w6 := (hwP.2 m hm).1.2.2.2.2.2.2
    rcases ixc a3 (nd P m).2.2.2.2.2.2 (by omega) with ⟨c, hc, rfl⟩ | hx
    · by_cases ha2 : 0 ≤ a2
      · cases hps : psb T P m bu
        · refine ⟨-99999, fun I post hRc h => ?_⟩
          obtain ⟨c1, hPc, ⟨ch, ch0, c3⟩, c4, c5, c6⟩ := id hRc
          replace hPc : Pc I P := hPc
          replace c4 : I 0 6 = nI bu := c4
          unfold wL_value wX7_cell
          rw [c4]
          refine p_col hPc hwP hm hc ⟨fun z => absurd z (by decide), fun _ => ⟨fun _ => ?_, fun z => absurd ha2 z⟩⟩
          refine p_isPossible c1 hwT hPc hwP c3 (by omega) hm hbu (fun I2 hF hCa hO h27 => ?_)
          rw [hps]
          exact ⟨fun z => absurd rfl z, fun _ => Or.inr ⟨rfl, h I2 (hRc.ps hF hCa ch0) (fun b hb => hF b (by omega))⟩⟩
        · obtain ⟨⟨L, eL⟩, hST⟩ := psb_t hps
          have hn2 : ¬ a2 < 0 := Int32.not_lt.2 ha2
          by_cases hl : a2 < nI L.length
          · obtain ⟨r, hr, rfl⟩ : ∃ r, r < L.length ∧ a2 = nI r := by
              rcases ixc a2 L.length (by have := psb_200 hwP hm eL; omega) with y | y | y
              · exact y
              · exact absurd y hn2
              · exact absurd hl (Int32.not_lt.2 y)
            refine ⟨(L.getD r []).getD c UK, fun I post hRc h => ?_⟩
            obtain ⟨c1, hPc, ⟨ch, ch0, c3⟩, c4, c5, c6⟩ := id hRc
            replace hPc : Pc I P := hPc
            replace c4 : I 0 6 = nI bu := c4
            unfold wL_value wX7_cell
            rw [c4]
            refine p_col hPc hwP hm hc ⟨fun z => absurd z (by decide), fun _ => ⟨fun _ => ?_, fun z => absurd ha2 z⟩⟩
            refine p_isPossible c1 hwT hPc hwP c3 (by omega) hm hbu (fun I2 hF hCa hO h27 => ?_)
            have h2 := h I2 (hRc.ps hF hCa ch0) (fun b hb => hF b (by omega))
            rw [hps]
            have hH := (hO.s eL).1
            have e25 : I2 25 m = nI L.length := hH.1
            refine ⟨fun _ => p_countOf (by omega) ?_, fun z => absurd z (by decide)⟩
            rw [e25]
            exact ⟨fun _ => p_valueAt (by omega) hH hr hc w6 h2, fun z => absurd hl z⟩
          · refine ⟨-99999, fun I post hRc h => ?_⟩
            obtain ⟨c1, hPc, ⟨ch, ch0, c3⟩, c4, c5, c6⟩ := id hRc
            replace hPc : Pc I P := hPc
            replace c4 : I 0 6 = nI bu := c4
            unfold wL_value wX7_cell
            rw [c4]
            refine p_col hPc hwP hm hc ⟨fun z => absurd z (by decide), fun _ => ⟨fun _ => ?_, fun z => absurd ha2 z⟩⟩
            refine p_isPossible c1 hwT hPc hwP c3 (by omega) hm hbu (fun I2 hF hCa hO h27 => ?_)
            have h2 := h I2 (hRc.ps hF hCa ch0) (fun b hb => hF b (by omega))
            rw [hps]
            have hH := (hO.s eL).1
            have e25 : I2 25 m = nI L.length := hH.1
            refine ⟨fun _ => p_countOf (by omega) ?_, fun z => absurd z (by decide)⟩
            rw [e25]
            exact ⟨fun z => absurd z hl, fun _ => Or.inl ⟨rfl, h2⟩⟩
      · refine ⟨-99999, fun I post hRc h => ?_⟩
        obtain ⟨c1, hPc, -⟩ := id hRc
        unfold wL_value wX7_cell
        exact p_col hPc hwP hm hc ⟨fun z => absurd z (by decide), fun _ => ⟨fun z => absurd z ha2, fun _ => Or.inl ⟨rfl, h I hRc (Fr9.rf I)⟩⟩⟩
    · refine ⟨-99999, fun I post hRc h => ?_⟩
      obtain ⟨c1, hPc, -⟩ := id hRc
      unfold wL_value wX7_cell
      exact p_col_f hPc hwP hm hx ⟨fun _ => Or.inl ⟨rfl, h I hRc (Fr9.rf I)⟩, fun z => absurd rfl z⟩
  · refine ⟨-99999, fun I post hRc h => ?_⟩
    obtain ⟨c1, hPc, -⟩ := id hRc
    unfold wL_value wX7_cell
    exact p_col_f1 hPc hx ⟨fun _ => Or.inl ⟨rfl, h I hRc (Fr9.rf I)⟩, fun z => absurd rfl z⟩
theorem c_same_t {m o : Nat} (hw : Rw Z) (hi : i < 512) (h1 : m < Z.2.1.length) (h2 : o < Z.2.1.length) : Sp9 i i Z Z (sameRR Z m o) (wL_same (nI m) (nI o)) := by
  obtain ⟨T, P, bu, Kk, Vv⟩ := Z
  obtain ⟨hwT, hwP, hd, hbu, hw5⟩ := hw
  replace hwP : Pw T P := hwP
  replace h1 : m < P.length := h1
  replace h2 : o < P.length := h2
  have h24 := hwP.1
  intro I post hRc h
  obtain ⟨c1, hPc, ⟨ch, ch0, c3⟩, c4, c5, c6⟩ := id hRc
  replace hPc : Pc I P := hPc
  replace c1 : Tc I T := c1
  replace c3 : Ca I T P ch := c3
  replace c4 : I 0 6 = nI bu := c4
  unfold wL_same wX7_same
  refine p_has hPc hwP h1 ⟨fun z => absurd z (by decide), fun _ => p_has hPc hwP h2 ⟨fun _ => ?_, fun z => absurd z (by decide)⟩⟩
  rw [c4]
  refine p_isPossibleK c1 hwT hPc hwP c3 (by omega) h1 hbu (fun I3 hF3 hCa3 hO3 h273 hmo3 => ?_)
  have hq3 := h I3 (hRc.ps hF3 hCa3 ch0) (fun b hb => hF3 b (by omega))
  cases p1 : psb T P m bu
  · have e : sameRR (T, P, bu, Kk, Vv) m o = -99999 := if_neg (by show ¬ (psb T P m bu && psb T P o bu) = true; rw [p1]; exact fun z => Bool.noConfusion z)
    rw [e] at hq3
    exact ⟨fun _ => Or.inr ⟨rfl, hq3⟩, fun z => absurd rfl z⟩
  · refine ⟨fun z => absurd z (by decide), fun _ => ?_⟩
    have c43 : I3 0 6 = nI bu := by rw [hF3 0 (by omega)]; exact c4
    rw [c43]
    refine p_isPossibleK (c1.cg (fun b hb => hF3 b (by omega))) hwT (hPc.cg (fun b _ hb => hF3 b (by omega))) hwP hCa3 (by omega) h2 hbu (fun I5 hF5 hCa5 hO5 h275 hmo5 => ?_)
    have hF5' : ∀ b, b < 24 ∨ 30 ≤ b → I5 b = I b := fun b hb => (hF5 b hb).trans (hF3 b hb)
    have hq5 := h I5 (hRc.ps hF5' hCa5 ch0) (fun b hb => hF5' b (by omega))
    cases p2 : psb T P o bu
    · have e : sameRR (T, P, bu, Kk, Vv) m o = -99999 := if_neg (by show ¬ (psb T P m bu && psb T P o bu) = true; rw [p1, p2]; decide)
      rw [e] at hq5
      exact ⟨fun z => absurd rfl z, fun _ => Or.inr ⟨rfl, hq5⟩⟩
    · obtain ⟨⟨A, eA⟩, -⟩ := psb_t p1
      obtain ⟨⟨B, eB⟩, -⟩ := psb_t p2
      have hO1 : OKc I5 T P m := ((hCa5.2 m (by omega)).2 (hmo5 m (by omega) h273)).2
      have eR : sameR T P m o = (decide ((nd P m).2.2.2.2.2.2 = (nd P o).2.2.2.2.2.2 ∧ A.length = B.length) && (er A B).isSome) := by
        unfold sameR
        rw [eA, eB]
      refine ⟨fun _ => ?_, fun z => absurd z (by decide)⟩
      refine p_haveSameRows (hPc.cg (fun b _ hb => hF5' b (by omega))) hwP h1 h2 (hO1.s eA).1 (hO5.s eB).1 (fun I7 hF7 => ?_)
      rw [← eR]
      have hF7' : ∀ b, b < 24 ∨ 30 ≤ b → I7 b = I b := fun b hb => (hF7 b (by omega)).trans (hF5' b hb)
      have hCa7 : Ca I7 T P ch := hCa5.cg hwP (by rw [hF7 1 (by omega)]) (fun b _ _ => hF7 b (by omega))
      have hq7 := h I7 (hRc.ps hF7' hCa7 ch0) (fun b hb => hF7' b (by omega))
      have e : sameRR (T, P, bu, Kk, Vv) m o = bI (sameR T P m o) := if_pos (by show (psb T P m bu && psb T P o bu) = true; rw [p1, p2]; rfl)
      rw [e] at hq7
      cases eS : sameR T P m o
      · rw [eS] at hq7
        exact ⟨Or.inl rfl, fun _ => hq7, fun z => absurd rfl z⟩
      · rw [eS] at hq7
        exact ⟨Or.inr rfl, fun z => absurd z (by decide), fun _ => hq7⟩
theorem c_same (hw : Rw Z) (hi : i < 512) (a1 a2 : Int32) : ∃ r, Sp9 i i Z Z r (wL_same a1 a2) := by
  have h24 := hw.2.1.1
  rcases ixc a1 Z.2.1.length (by omega) with ⟨m, hm, rfl⟩ | hx
  · rcases ixc a2 Z.2.1.length (by omega) with ⟨o, ho, rfl⟩ | hx
    · exact ⟨_, c_same_t hw hi hm ho⟩
    · refine ⟨-99999, fun I post hRc h => ?_⟩
      obtain ⟨c1, hPc, -⟩ := id hRc
      unfold wL_same wX7_same
      exact p_has hPc hw.2.1 hm ⟨fun z => absurd z (by decide), fun _ => p_has_f hPc hx ⟨fun z => absurd rfl z, fun _ => Or.inl ⟨rfl, h I hRc (Fr9.rf I)⟩⟩⟩
  · refine ⟨-99999, fun I post hRc h => ?_⟩
    obtain ⟨c1, hPc, -⟩ := id hRc
    unfold wL_same wX7_same
    exact p_has_f hPc hx ⟨fun _ => Or.inl ⟨rfl, h I hRc (Fr9.rf I)⟩, fun z => absurd rfl z⟩
theorem c_estimate (hw : Rw Z) (a : Int32) : ∃ r, Sp9 i i Z Z r (wL_estimate a) := by
  have hw0 := hw
  obtain ⟨T, P, bu, Kk, Vv⟩ := Z
  obtain ⟨hwT, hwP, hd, hbu, hwK, hwV⟩ := hw
  replace hwT : Tw T := hwT
  have t4 := hwT.1
  have h16 := pw_4 t4
  rcases ixs a t4 with ⟨s, s1, s2, rfl⟩ | hx
  · refine ⟨nI (gs T Kk s), fun I post hRc h => ?_⟩
    obtain ⟨c1, c2, c3, c4, c5, c6⟩ := id hRc
    unfold wL_estimate wX7_estimate
    refine p_hasSet c1 hwT s1 s2 ⟨fun _ => ?_, fun z => absurd z (by decide)⟩
    refine p_measure c1 hwT c5 hwK (fun I2 hF hM => ?_)
    exact p_guess hwT (c5.cg (fun b _ _ => hF b (by omega) (by omega))) hwK hM (by omega) (h I2 (hRc.pl hw0 (fun b hb => hF b (by omega) (by omega))) (fun b hb => hF b (by omega) (by omega)))
  · refine ⟨-99999, fun I post hRc h => ?_⟩
    obtain ⟨c1, -⟩ := id hRc
    unfold wL_estimate wX7_estimate
    exact p_hasSet_f c1 hwT hx ⟨fun z => absurd rfl z, fun _ => ⟨rfl, h I hRc (Fr9.rf I)⟩⟩
theorem c_cost (hw : Rw Z) (a : Int32) : ∃ r, Sp9 i i Z Z r (wL_cost a) := by
  have hw0 := hw
  obtain ⟨T, P, bu, Kk, Vv⟩ := Z
  obtain ⟨hwT, hwP, hd, hbu, hwK, hwV⟩ := hw
  replace hwT : Tw T := hwT
  have t4 := hwT.1
  have h16 := pw_4 t4
  rcases ixs a t4 with ⟨s, s1, s2, rfl⟩ | hx
  · have hv : vp_in (nI s) 16 := by simp (disch := omega) only [fa_lit, nI_ltI, nI_leI, nI_eq, nI_add, pk_mul, nI_clamp, vp_in_nI, l_uk, l_n1, l_n1e, l_n1e2, l_n1l, l_n1l2, l_n1l3, not_true_eq_false, not_false_eq_true, true_implies, false_implies, true_and, and_true, and_self, forall_eq, bI_t, bI_f, Bool.false_eq_true, or_true, true_or, or_false, false_or, s1_ltx, if_true, if_false, Nat.add_zero, Nat.zero_add,  d_leF, d_leT, d_ltF, d_ltT, d_eqF, d_eqT]
    have ec : (nI s).toNatClampNeg = s := nI_clamp (by omega)
    refine ⟨nI (CS T Kk s), fun I post hRc h => ?_⟩
    obtain ⟨c1, c2, c3, c4, c5, c6⟩ := id hRc
    unfold wL_cost wX7_cost
    refine p_hasSet c1 hwT s1 s2 ⟨fun _ => ?_, fun z => absurd z (by decide)⟩
    refine p_planUpTo c1 hwT c5 hwK (by omega) s1 (fun I2 hF h44 h45 => ?_)
    have h2 := h I2 (hRc.pl hw0 hF) (fun b hb => hF b (by omega))
    rw [← h44, ← ec] at h2
    refine ⟨fun z => absurd z (nI_nn (by omega)), fun _ => ⟨fun z => ?_, fun _ => ⟨hv, ?_⟩⟩⟩
    · have z : nI 16 ≤ nI s := z
      rw [nI_leI (by omega) (by omega)] at z
      omega
    · rw [ec] at h2 ⊢
      exact h2
  · refine ⟨-99999, fun I post hRc h => ?_⟩
    obtain ⟨c1, -⟩ := id hRc
    unfold wL_cost wX7_cost
    exact p_hasSet_f c1 hwT hx ⟨fun z => absurd rfl z, fun _ => ⟨rfl, h I hRc (Fr9.rf I)⟩⟩
theorem c_split (hw : Rw Z) (a : Int32) : ∃ r, Sp9 i i Z Z r (wL_split a) := by
  have hw0 := hw
  obtain ⟨T, P, bu, Kk, Vv⟩ := Z
  obtain ⟨hwT, hwP, hd, hbu, hwK, hwV⟩ := hw
  replace hwT : Tw T := hwT
  have t4 := hwT.1
  have h16 := pw_4 t4
  rcases ixs a t4 with ⟨s, s1, s2, rfl⟩ | hx
  · have hv : vp_in (nI s) 16 := by simp (disch := omega) only [fa_lit, nI_ltI, nI_leI, nI_eq, nI_add, pk_mul, nI_clamp, vp_in_nI, l_uk, l_n1, l_n1e, l_n1e2, l_n1l, l_n1l2, l_n1l3, not_true_eq_false, not_false_eq_true, true_implies, false_implies, true_and, and_true, and_self, forall_eq, bI_t, bI_f, Bool.false_eq_true, or_true, true_or, or_false, false_or, s1_ltx, if_true, if_false, Nat.add_zero, Nat.zero_add,  d_leF, d_leT, d_ltF, d_ltT, d_eqF, d_eqT]
    have ec : (nI s).toNatClampNeg = s := nI_clamp (by omega)
    refine ⟨nI (SP T Kk s), fun I post hRc h => ?_⟩
    obtain ⟨c1, c2, c3, c4, c5, c6⟩ := id hRc
    unfold wL_split wX7_split
    refine p_hasSet c1 hwT s1 s2 ⟨fun _ => ?_, fun z => absurd z (by decide)⟩
    refine p_planUpTo c1 hwT c5 hwK (by omega) s1 (fun I2 hF h44 h45 => ?_)
    have h2 := h I2 (hRc.pl hw0 hF) (fun b hb => hF b (by omega))
    rw [← h45] at h2
    refine ⟨fun z => absurd z (nI_nn (by omega)), fun _ => ⟨fun z => ?_, fun _ => ⟨hv, ?_⟩⟩⟩
    · have z : nI 16 ≤ nI s := z
      rw [nI_leI (by omega) (by omega)] at z
      omega
    · rw [ec]
      exact h2
  · refine ⟨-99999, fun I post hRc h => ?_⟩
    obtain ⟨c1, -⟩ := id hRc
    unfold wL_split wX7_split
    exact p_hasSet_f c1 hwT hx ⟨fun z => absurd rfl z, fun _ => ⟨rfl, h I hRc (Fr9.rf I)⟩⟩
theorem c_different (hw : Rw Z) (a : Int32) : ∃ r, Sp9 i i Z Z r (fun I post => wL_different a I (fun r => post r I)) := by
  obtain ⟨T, P, bu, Kk, Vv⟩ := Z
  obtain ⟨hwT, hwP, hd, hbu, hwK, hwV⟩ := hw
  replace hwV : Vw T Vv := hwV
  have l4 := hwV.1
  rcases ixc a Vv.length (by omega) with ⟨v, hv, rfl⟩ | hx
  · refine ⟨nI (dff T (vq Vv v)), fun I post hRc h => ?_⟩
    have h2 := h I hRc (Fr9.rf I)
    obtain ⟨c1, c2, c3, c4, c5, c6⟩ := id hRc
    show wL_different _ _ _
    unfold wL_different wX7_different
    exact p_vhas c6 l4 hv ⟨fun _ => p_differentRows c1 hwT c6 hwV hv h2, fun z => absurd z (by decide)⟩
  · refine ⟨-99999, fun I post hRc h => ?_⟩
    have h2 := h I hRc (Fr9.rf I)
    obtain ⟨c1, c2, c3, c4, c5, c6⟩ := id hRc
    show wL_different _ _ _
    unfold wL_different wX7_different
    exact p_vhas_f c6 hx ⟨fun z => absurd rfl z, fun _ => ⟨rfl, h2⟩⟩
theorem c_often (hw : Rw Z) (a1 a2 a3 : Int32) : ∃ r, Sp9 i i Z Z r (fun I post => wL_often a1 a2 a3 I (fun r => post r I)) := by
  obtain ⟨T, P, bu, Kk, Vv⟩ := Z
  obtain ⟨hwT, hwP, hd, hbu, hwK, hwV⟩ := hw
  replace hwT : Tw T := hwT
  replace hwV : Vw T Vv := hwV
  have l4 := hwV.1
  rcases ixc a1 Vv.length (by omega) with ⟨v, hv, rfl⟩ | hx
  · obtain ⟨b1, b2, b3, b4, b5, b6⟩ := hwV.b hwT hv
    rcases ixc a2 (T.2.2.1 (vq Vv v).1) (by omega) with ⟨r, hr, rfl⟩ | hx
    · rcases ixc a3 (T.2.2.1 (vq Vv v).2.1) (by omega) with ⟨s, hs, rfl⟩ | hx
      · refine ⟨nI (oft T (vq Vv v) r s), fun I post hRc h => ?_⟩
        have h2 := h I hRc (Fr9.rf I)
        obtain ⟨c1, c2, c3, c4, c5, c6⟩ := id hRc
        replace c1 : Tc I T := c1
        replace c6 : Vc I Vv := c6
        show wL_often _ _ _ _ _
        unfold wL_often wX7_often wX6_hasRows
        refine p_vfirst c1 hwT c6 hwV hv (b_some (p_vsecond c1 hwT c6 hwV hv (b_some ?_)))
        exact p_hasRow c1 hwT b1 hr ⟨fun z => absurd z (by decide), fun _ => p_hasRow c1 hwT b2 hs ⟨fun z => absurd z (by decide), fun _ => ⟨fun _ => p_timesOf c1 hwT c6 hwV hv hr hs h2, fun z => absurd z (by decide)⟩⟩⟩
      · refine ⟨-99999, fun I post hRc h => ?_⟩
        have h2 := h I hRc (Fr9.rf I)
        obtain ⟨c1, c2, c3, c4, c5, c6⟩ := id hRc
        replace c1 : Tc I T := c1
        replace c6 : Vc I Vv := c6
        show wL_often _ _ _ _ _
        unfold wL_often wX7_often wX6_hasRows
        refine p_vfirst c1 hwT c6 hwV hv (b_some (p_vsecond c1 hwT c6 hwV hv (b_some ?_)))
        exact p_hasRow c1 hwT b1 hr ⟨fun z => absurd z (by decide), fun _ => p_hasRow_f c1 b2 hx ⟨fun _ => ⟨fun z => absurd rfl z, fun _ => ⟨rfl, h2⟩⟩, fun z => absurd rfl z⟩⟩
    · refine ⟨-99999, fun I post hRc h => ?_⟩
      have h2 := h I hRc (Fr9.rf I)
      obtain ⟨c1, c2, c3, c4, c5, c6⟩ := id hRc
      replace c1 : Tc I T := c1
      replace c6 : Vc I Vv := c6
      show wL_often _ _ _ _ _
      unfold wL_often wX7_often wX6_hasRows
      refine p_vfirst c1 hwT c6 hwV hv (b_some (p_vsecond c1 hwT c6 hwV hv (b_some ?_)))
      exact p_hasRow_f c1 b1 hx ⟨fun _ => ⟨fun z => absurd rfl z, fun _ => ⟨rfl, h2⟩⟩, fun z => absurd rfl z⟩
  · refine ⟨-99999, fun I post hRc h => ?_⟩
    have h2 := h I hRc (Fr9.rf I)
    obtain ⟨c1, c2, c3, c4, c5, c6⟩ := id hRc
    show wL_often _ _ _ _ _
    unfold wL_often wX7_often wX6_hasRows
    exact p_vfirst_f c6 hx (b_none (p_vsecond_f c6 hx (b_none ⟨fun z => absurd rfl z, fun _ => ⟨rfl, h2⟩⟩)))
theorem c_ways (hw : Rw Z) (a : Int32) : ∃ r, Sp9 i i Z Z r (wL_ways a) := by
  have hw0 := hw
  obtain ⟨T, P, bu, Kk, Vv⟩ := Z
  obtain ⟨hwT, hwP, hd, hbu, hwK, hwV⟩ := hw
  replace hwT : Tw T := hwT
  have t4 := hwT.1
  rcases ixc a T.1 (by omega) with ⟨t, ht, rfl⟩ | hx
  · obtain ⟨t4, w3, m10, w1⟩ := hwT.l ht
    by_cases hc : 1 < T.2.1 t
    · refine ⟨nI (ways T t), fun I post hRc h => ?_⟩
      obtain ⟨c1, -⟩ := id hRc
      replace c1 : Tc I T := c1
      unfold wL_ways wX7_ways
      refine find_t c1 hwT ht (b_some ?_)
      unfold wX5_hasColumn
      rw [(c1.t t4).1]
      refine ⟨fun z => absurd z (by decide), fun _ => ⟨fun z => ?_, fun _ => ⟨fun _ => ?_, fun z => absurd z (by decide)⟩⟩⟩
      · replace z : nI (T.2.1 t) ≤ nI 1 := z
        rw [nI_leI (by omega) (by omega)] at z
        omega
      · exact p_pathPairs c1 hwT t4 hc (fun I2 hF => h I2 (hRc.ws hw0 t4 hF) (fun b hb => hF b (by omega)))
    · refine ⟨-99999, fun I post hRc h => ?_⟩
      obtain ⟨c1, -⟩ := id hRc
      replace c1 : Tc I T := c1
      unfold wL_ways wX7_ways
      refine find_t c1 hwT ht (b_some ?_)
      unfold wX5_hasColumn
      rw [(c1.t t4).1]
      refine ⟨fun z => absurd z (by decide), fun _ => ⟨fun _ => ⟨fun z => absurd rfl z, fun _ => Or.inr ⟨rfl, h I hRc (Fr9.rf I)⟩⟩, fun z => absurd ?_ z⟩⟩
      show nI (T.2.1 t) ≤ nI 1
      rw [nI_leI (by omega) (by omega)]
      omega
  · refine ⟨-99999, fun I post hRc h => ?_⟩
    obtain ⟨c1, -⟩ := id hRc
    unfold wL_ways wX7_ways
    exact find_f c1 hwT hx (b_none (Or.inl ⟨rfl, h I hRc (Fr9.rf I)⟩))
end RD
