/-! the other object: the cells' positions 0..50 and 51..101 change places -/
def q_s (j : Nat) : Nat := if j < 51 then j + 51 else if j < 102 then j - 51 else j
theorem q_s_s (j : Nat) : q_s (q_s j) = j := by
  unfold q_s
  repeat' split
  all_goals omega
theorem q_s_lt {j N : Nat} (hN : 102 ≤ N) : q_s j < N ↔ j < N := by
  unfold q_s
  repeat' split
  all_goals omega
theorem q_s_hi {j : Nat} (h : 102 ≤ j) : q_s j = j := by
  unfold q_s
  rw [if_neg (by omega), if_neg (by omega)]
theorem q_s_lo {j : Nat} (h : j < 51) : q_s j = j + 51 := if_pos h
theorem q_s_md {j : Nat} (h : j < 51) : q_s (j + 51) = j := by
  unfold q_s
  rw [if_neg (by omega), if_pos (by omega)]
  omega
def q_sS (S : QS) : QS := (fun j => S.1 (q_s j), S.2.1, fun j => S.2.2.1 (q_s j), fun j => S.2.2.2.1 (q_s j), fun k j => (S.2.2.2.2 (q_s k) j).map q_s)
def q_sF {α : Type} (I : Nat → Nat → α) : Nat → Nat → α := fun k => I (q_s k)
theorem q_sF_sF {α : Type} (I : Nat → Nat → α) : q_sF (q_sF I) = I := by
  funext k
  show I (q_s (q_s k)) = I k
  rw [q_s_s]
theorem q_omm (x : Option Nat) : (x.map q_s).map q_s = x := by
  cases x with
  | none => rfl
  | some a => show some (q_s (q_s a)) = some a; rw [q_s_s]
theorem q_omc (f : Nat → Nat) (x : Option Nat) : (x.map q_s).map (fun j => f (q_s j)) = x.map f := by
  cases x with
  | none => rfl
  | some a => show some (f (q_s (q_s a))) = some (f a); rw [q_s_s]
theorem q_sS_sS (S : QS) : q_sS (q_sS S) = S := by
  obtain ⟨a, n, k, z, r⟩ := S
  unfold q_sS
  simp only [q_s_s, q_omm]
theorem q_scell {C : QC} {S : QS} {I : QI} {J : QJ} (k : Nat) : q_cell C (q_sS S) (q_sF I) (q_sF J) k = q_cell C S I J (q_s k) := by
  have hm : ∀ j, (((q_sS S).2.2.2.2 k j).map (q_sS S).1) = (S.2.2.2.2 (q_s k) j).map S.1 := fun j => q_omc S.1 _
  have hf : ∀ (isr : Bool) (j : Nat), q_fv (q_sS S).1 (q_sS S).2.2.2.2 (q_sF I) isr k j = q_fv S.1 S.2.2.2.2 I isr (q_s k) j := by
    intro isr j
    cases isr
    · rfl
    · show va_rf _ = va_rf _
      rw [hm]
  have e1 : (q_sS S).2.2.1 k = S.2.2.1 (q_s k) := rfl
  have e2 : (q_sS S).2.2.2.1 k = S.2.2.2.1 (q_s k) := rfl
  have e3 : q_sF I k = I (q_s k) := rfl
  have e4 : q_sF J k = J (q_s k) := rfl
  unfold q_cell
  simp only [hm, hf, e1, e2, e3, e4]
theorem q_slay {C : QC} {S : QS} {I : QI} {J : QJ} {k : Nat} {q : Nat × va_E} (hN : 102 ≤ S.2.1) (h : (q_lay C (q_sS S) (q_sF I) (q_sF J))[k]? = some q) : (q_lay C S I J)[q_s k]? = some q := by
  obtain ⟨h1, h2⟩ := q_lay_in h
  have h3 : q_s k < S.2.1 := (q_s_lt hN).2 h1
  rw [q_lay_at h3, h2, q_scell]
  rfl
theorem q_sWC {X : QX} {S : QS} {I : QI} {J : QJ} {H : Heap} (hN : 102 ≤ S.2.1) (h : q_WC X S I J H) : q_WC X (q_sS S) (q_sF I) (q_sF J) H := by
  refine ⟨h.1.by q_s (fun k q hq => q_slay hN hq), fun i j p q hi hj hpq => ?_, fun k q hq => h.2.2 _ q (q_slay hN hq)⟩
  have := h.2.1 _ _ p q (q_slay hN hi) (q_slay hN hj) hpq
  rw [← q_s_s i, this, q_s_s]
theorem q_scv (S : QS) (v : Value) : q_cv S.1 (q_cv q_s v) = q_cv (q_sS S).1 v := by
  cases v <;> rfl
theorem q_scvm (S : QS) (av : List Value) : (av.map (q_cv q_s)).map (q_cv S.1) = av.map (q_cv (q_sS S).1) := by
  rw [List.map_map]
  exact List.map_congr_left (fun v _ => q_scv S v)
/-- a method's contract at the other object -/
theorem CX.sw {X : QX} {M : MD} {d c s : Nat} {av : List Value} {S : QS} {I : QI} {J : QJ} {P : Int32 → QI → QJ → Prop} (hN : 102 ≤ S.2.1) (h : CX X M d c s av (q_sS S) (q_sF I) (q_sF J) (q_Pi (q_sS S) P)) :
    CX X M d c s (av.map (q_cv q_s)) S I J (q_Pi S (fun r I2 J2 => P r (q_sF I2) (q_sF J2))) := by
  intro l hl p e h1 h2 h3 s1 m args below h4 h5 h6 h7
  obtain ⟨a1, a2, a3⟩ := h6
  obtain ⟨n, o, g1, g2, g3, g4⟩ := h l hl p e h1 h2 h3 s1 m args below h4 h5 ⟨by rw [a1, q_scvm], a2, q_sWC hN a3⟩ h7
  refine ⟨n, o, g1, g2, g3, ?_⟩
  rcases g4 with ⟨⟨v, S2, I2, J2, b1, ⟨r, c1, c2, c3⟩, b3, b4⟩, g5⟩ | ⟨q, b1, E, ce, L, ⟨S2, I2, J2, ⟨r, c1, -⟩, -⟩, -⟩
  · cases c1
    refine Or.inl ⟨⟨some (.int r), S, q_sF I2, q_sF J2, b1, ⟨r, rfl, rfl, by show P r (q_sF (q_sF I2)) (q_sF (q_sF J2)); rw [q_sF_sF, q_sF_sF]; exact c3⟩, ?_, b4⟩, g5⟩
    have h9 := q_sWC (S := S2) (by rw [c2]; exact hN) b3
    rw [c2, q_sS_sS] at h9
    exact h9
  · cases c1
