/-! pure: the steps of the reference's rewriting -/
def rw1 (P : List Nd) (n : Nat) (L : List Nat) : Option (Nat × List Nd) := rwS (n + 1) P n L
def rx (X : Option (List Nd)) (n : Nat) (L : List Nat) : Option (Nat × List Nd) := X.bind (fun P => rw1 P n L)
def mo : Option (Nat × List Nd) → Int32
  | none => N1
  | some r => nI r.1
def xo (r : Option (Nat × List Nd)) : Option (List Nd) := r.map Prod.snd
/-- a node laid with its parts, and the filters that stay above it -/
def Zt (P0 : List Nd) (n : Nat) (L : List Nat) (a b : Nat) (P : List Nd) : Option (Nat × List Nd) := (mk P (rb (nd P0 n) a b)).bind (fun r3 => chn (nd P0 n).2.2.2.2.2.2 r3.2 r3.1 (dsc (L.drop (fre P0 n L))))
theorem rw1_f {P : List Nd} {n : Nat} {L : List Nat} {m : Nat} (hS : Sw P m) (hn : n < m) (e : (nd P n).1 = 1) : rw1 P n L = rw1 P (nd P n).2.1 (qco (nd P n) :: L) := by
  have := (hS.2 n hn).1 (by omega)
  unfold rw1
  rw [rwS_f e]
  exact rw_f _ _ hS (by omega) (by omega) (by omega)
theorem rw1_s {P0 P : List Nd} {n : Nat} {L : List Nat} (hS : Sw P0 P0.length) (hx : XP P0 P) (hn : n < P0.length) (e0 : (nd P0 n).1 ≠ 0) (e1 : (nd P0 n).1 ≠ 1) : rw1 P n L = (rw1 P (nd P0 n).2.1 (cF P0 n L)).bind (fun r1 => if (nd P0 n).2.2.1 = 0 then Zt P0 n L r1.1 0 r1.2 else (rw1 r1.2 ((nd P0 n).2.2.1 - 1) (cS P0 n L)).bind (fun r2 => Zt P0 n L r1.1 (r2.1 + 1) r2.2)) := by
  have ha := (hS.2 n hn).1 e0
  have hb := (hS.2 n hn).2
  have hS2 := hS.x hx
  unfold rw1 Zt
  rw [rwS, hx.g hn, if_neg e1, if_neg e0, cF_x hS hx hn e0, cS_x hS hx hn e0, fre_x hS hx hn, rw_f n ((nd P0 n).2.1 + 1) hS2 (by omega) (by omega) (by omega)]
  cases er : rwS ((nd P0 n).2.1 + 1) P (nd P0 n).2.1 (cF P0 n L) with
  | none => rfl
  | some r1 =>
    have hS3 := hS2.x (rw_xp er)
    show (match (if (nd P0 n).2.2.1 = 0 then some (0, r1.2) else (rwS n r1.2 ((nd P0 n).2.2.1 - 1) (cS P0 n L)).map (fun r => (r.1 + 1, r.2))) with
      | none => none
      | some r2 => match mk r2.2 ((nd P0 n).1, r1.1, r2.1, (nd P0 n).2.2.2.1, (nd P0 n).2.2.2.2.1, (nd P0 n).2.2.2.2.2.1, (nd P0 n).2.2.2.2.2.2) with
        | none => none
        | some r3 => chn (nd P0 n).2.2.2.2.2.2 r3.2 r3.1 (dsc (L.drop (fre P0 n L)))) = if (nd P0 n).2.2.1 = 0 then (mk r1.2 (rb (nd P0 n) r1.1 0)).bind (fun r3 => chn (nd P0 n).2.2.2.2.2.2 r3.2 r3.1 (dsc (L.drop (fre P0 n L)))) else (rwS ((nd P0 n).2.2.1 - 1 + 1) r1.2 ((nd P0 n).2.2.1 - 1) (cS P0 n L)).bind (fun r2 => (mk r2.2 (rb (nd P0 n) r1.1 (r2.1 + 1))).bind (fun r3 => chn (nd P0 n).2.2.2.2.2.2 r3.2 r3.1 (dsc (L.drop (fre P0 n L)))))
    by_cases eb : (nd P0 n).2.2.1 = 0
    · rw [if_pos eb, if_pos eb]
      show (match mk r1.2 (rb (nd P0 n) r1.1 0) with
        | none => none
        | some r3 => _) = _
      cases mk r1.2 (rb (nd P0 n) r1.1 0) <;> rfl
    · rw [if_neg eb, if_neg eb, rw_f n ((nd P0 n).2.2.1 - 1 + 1) hS3 (by have := hb eb; omega) (by have := hb eb; omega) (by omega)]
      cases er2 : rwS ((nd P0 n).2.2.1 - 1 + 1) r1.2 ((nd P0 n).2.2.1 - 1) (cS P0 n L) with
      | none => rfl
      | some r2 =>
        show (match mk r2.2 (rb (nd P0 n) r1.1 (r2.1 + 1)) with
        | none => none
        | some r3 => _) = (mk r2.2 (rb (nd P0 n) r1.1 (r2.1 + 1))).bind _
        cases mk r2.2 (rb (nd P0 n) r1.1 (r2.1 + 1)) <;> rfl
def tl9 (a1 a2 m1 m2 : Int32) (S : QS) (I : QI) (post : Int32 → QS → QI → Prop) : Prop := vp_in a1 24 ∧ (vp_in a1 24 ∧ (vp_in a1 24 ∧ (vp_in a1 24 ∧ (wX8_place (I 55 (a1).toNatClampNeg) m1 m2 (I 58 (a1).toNatClampNeg) (I 59 (a1).toNatClampNeg) (I 60 (a1).toNatClampNeg) I (fun r8 I7 => (wX8_withChain r8 a2 a1 S I7 (fun r9 I10 => post r9 S I10)))))))
def brA (rec : Int32 → Int32 → QS → QI → Nat → Nat → (Int32 → QS → QI → Prop) → Prop) (a1 : Int32) (a2 : Int32) (S : QS) (I : QI) (c s : Nat) (post : Int32 → QS → QI → Prop) : Prop := (∃ c1 s1 : Nat, (0) + c1 ≤ c ∧ (0) + s1 ≤ s ∧ rec (I 56 (a1).toNatClampNeg) (-1) S I c1 s1 (fun r1 S2 I3 => (vp_in a1 24 ∧ ((¬ (I3 57 (a1).toNatClampNeg) = (-1) → (vp_in a1 24 ∧ (∃ c2 s2 : Nat, (0 + c1) + c2 ≤ c ∧ (0 + s1) + s2 ≤ s ∧ rec (I3 57 (a1).toNatClampNeg) (-1) S2 I3 c2 s2 (fun r4 S5 I6 => (vp_in a1 24 ∧ (vp_in a1 24 ∧ (vp_in a1 24 ∧ (vp_in a1 24 ∧ (wX8_place (I6 55 (a1).toNatClampNeg) r1 r4 (I6 58 (a1).toNatClampNeg) (I6 59 (a1).toNatClampNeg) (I6 60 (a1).toNatClampNeg) I6 (fun r8 I7 => (wX8_withChain r8 a2 a1 S5 I7 (fun r9 I10 => post r9 S5 I10)))))))))))) ∧ ((I3 57 (a1).toNatClampNeg) = (-1) → (vp_in a1 24 ∧ (vp_in a1 24 ∧ (vp_in a1 24 ∧ (vp_in a1 24 ∧ (wX8_place (I3 55 (a1).toNatClampNeg) r1 (-1) (I3 58 (a1).toNatClampNeg) (I3 59 (a1).toNatClampNeg) (I3 60 (a1).toNatClampNeg) I3 (fun r12 I11 => (wX8_withChain r12 a2 a1 S2 I11 (fun r13 I14 => post r13 S2 I14)))))))))))))
def brB (rec : Int32 → Int32 → QS → QI → Nat → Nat → (Int32 → QS → QI → Prop) → Prop) (a1 : Int32) (a2 : Int32) (S : QS) (I : QI) (c s : Nat) (post : Int32 → QS → QI → Prop) : Prop := (∃ c3 s3 : Nat, (0) + c3 ≤ c ∧ (0) + s3 ≤ s ∧ wX8_partOf 30 a2 a1 0 (-1) S I c3 s3 (fun r15 S16 I17 => (∃ c4 s4 : Nat, (0 + c3) + c4 ≤ c ∧ (0 + s3) + s4 ≤ s ∧ rec (I 56 (a1).toNatClampNeg) r15 S16 I17 c4 s4 (fun r18 S19 I20 => (vp_in a1 24 ∧ ((¬ (I20 57 (a1).toNatClampNeg) = (-1) → (vp_in a1 24 ∧ (∃ c5 s5 : Nat, (0 + c3 + c4) + c5 ≤ c ∧ (0 + s3 + s4) + s5 ≤ s ∧ wX8_partOf 30 a2 a1 1 (-1) S19 I20 c5 s5 (fun r21 S22 I23 => (∃ c6 s6 : Nat, (0 + c3 + c4 + c5) + c6 ≤ c ∧ (0 + s3 + s4 + s5) + s6 ≤ s ∧ rec (I20 57 (a1).toNatClampNeg) r21 S22 I23 c6 s6 (fun r24 S25 I26 => (vp_in a1 24 ∧ (vp_in a1 24 ∧ (vp_in a1 24 ∧ (vp_in a1 24 ∧ (wX8_place (I26 55 (a1).toNatClampNeg) r18 r24 (I26 58 (a1).toNatClampNeg) (I26 59 (a1).toNatClampNeg) (I26 60 (a1).toNatClampNeg) I26 (fun r28 I27 => (wX8_withChain r28 a2 a1 S25 I27 (fun r29 I30 => post r29 S25 I30)))))))))))))) ∧ ((I20 57 (a1).toNatClampNeg) = (-1) → (vp_in a1 24 ∧ (vp_in a1 24 ∧ (vp_in a1 24 ∧ (vp_in a1 24 ∧ (wX8_place (I20 55 (a1).toNatClampNeg) r18 (-1) (I20 58 (a1).toNatClampNeg) (I20 59 (a1).toNatClampNeg) (I20 60 (a1).toNatClampNeg) I20 (fun r32 I31 => (wX8_withChain r32 a2 a1 S19 I31 (fun r33 I34 => post r33 S19 I34)))))))))))))))
def brC (rec : Int32 → Int32 → QS → QI → Nat → Nat → (Int32 → QS → QI → Prop) → Prop) (a1 : Int32) (a2 : Int32) (S : QS) (I : QI) (c s : Nat) (post : Int32 → QS → QI → Prop) : Prop := (∃ c13 s13 : Nat, (0) + c13 ≤ c ∧ (0) + s13 ≤ s ∧ rec (I 56 (a1).toNatClampNeg) a2 S I c13 s13 (fun r69 S70 I71 => (vp_in a1 24 ∧ (∃ c14 s14 : Nat, (0 + c13) + c14 ≤ c ∧ (0 + s13) + s14 ≤ s ∧ rec (I71 57 (a1).toNatClampNeg) a2 S70 I71 c14 s14 (fun r72 S73 I74 => (wX8_place 4 r69 r72 0 0 0 I74 (fun r76 I75 => post r76 S73 I75)))))))
/-- where the reference stands in a rewriting: with a plan, or full -/
def At (T : QT) (P0 : List Nd) (S : QS) (I : QI) (R : RS) : Option (List Nd) → Prop
  | some P => Tm I T ∧ AT S I R ∧ Pm I P ∧ I 51 32 = nI 0
  | none => Tm I T ∧ AT S I R ∧ (∃ P, XP P0 P ∧ Pw T P ∧ Pm I P) ∧ I 51 32 = nI 1
/-- what is known of the plan -/
def GX (T : QT) (P0 : List Nd) (R : RS) (X : Option (List Nd)) : Prop := ∀ P, X = some P → XP P0 P ∧ Pw T P ∧ Pd P ∧ ∀ k, k < R.2.2.1.length → ∃ i, (pr R.2.2.1 k).2.2 = nI i ∧ rw1 P (pr R.2.2.1 k).1 (lcn R.1 (pr R.2.2.1 k).2.1) = some (i, P)
theorem GX.no {T : QT} {P0 : List Nd} {R : RS} : GX T P0 R none := fun P h => by cases h
theorem At.pl {T : QT} {P0 : List Nd} {S : QS} {I : QI} {R : RS} {X : Option (List Nd)} (h : At T P0 S I R X) (hG : GX T P0 R X) : ∃ P, XP P0 P ∧ Pw T P ∧ Pm I P := by
  cases X with
  | some P => exact ⟨P, (hG P rfl).1, (hG P rfl).2.1, h.2.2.1⟩
  | none => exact h.2.2.1
theorem At.at {T : QT} {P0 : List Nd} {S : QS} {I : QI} {R : RS} {X : Option (List Nd)} (h : At T P0 S I R X) : AT S I R := by
  cases X with
  | some P => exact h.2.1
  | none => exact h.2.1
theorem FR.tm {I I2 : QI} {T : QT} (h : FR I I2) (hT : Tm I T) : Tm I2 T := by
  refine ⟨by rw [h.2 1 (by omega) (by omega) (by omega) (by omega)]; exact hT.1, fun u hu => ?_⟩
  rw [h.1 52 (by omega), h.1 53 (by omega), h.1 54 (by omega)]
  exact hT.2 u hu
/-- lists and pairs alone are written: the plan stays -/
theorem At.fl {T : QT} {P0 : List Nd} {S S2 : QS} {I I2 : QI} {R R2 : RS} {X : Option (List Nd)} (h : At T P0 S I R X) (hA : AT S2 I2 R2) (hF : FL1 I I2) : At T P0 S2 I2 R2 X := by
  cases X with
  | some P => exact ⟨hF.fr.tm h.1, hA, hF.pm h.2.2.1, by rw [hF.2 32 (by omega) (by omega)]; exact h.2.2.2⟩
  | none =>
    obtain ⟨a, -, ⟨P, b, c, d⟩, e⟩ := h
    exact ⟨hF.fr.tm a, hA, ⟨P, b, c, hF.pm d⟩, by rw [hF.2 32 (by omega) (by omega)]; exact e⟩
theorem GX.re {T : QT} {P0 : List Nd} {DN : List (Nat × List Nat)} {DL : List (List Nat)} {R R2 : RS} {X : Option (List Nd)} (hG : GX T P0 R X) (hK : RK P0 DN DL R) (hE : RE 0 R R2) : GX T P0 R2 X := fun P hP => by
  obtain ⟨a, b, c, d⟩ := hG P hP
  refine ⟨a, b, c, fun k hk => ?_⟩
  obtain ⟨-, -, -, Y, eY, hY⟩ := id hE
  have eY0 : Y = [] := by
    cases Y with
    | nil => rfl
    | cons y ys => exact absurd (hY y List.mem_cons_self) (Nat.not_lt_zero _)
  rw [eY0, List.append_nil] at eY
  rw [eY] at hk ⊢
  rw [hE.lc.2 _ (hK.2.2.2.2.1 k hk).2.1]
  exact d k hk
