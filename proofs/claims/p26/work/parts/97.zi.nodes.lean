/-! pure: nodes fit to what they are made of -/
theorem psb_mk {T : QT} {P : List Nd} {m bu : Nat} {L : List (List Int32)} (e : EV T P m = some L) (h : ST T P m ≤ bu) : psb T P m bu = true := by
  unfold psb
  rw [e]
  show decide (ST T P m ≤ bu) = true
  exact decide_eq_true h
theorem psb_a {T : QT} {P : List Nd} {m bu : Nat} (hw : Pw T P) (hm : m < P.length) (h0 : (nd P m).1 ≠ 0) (h : psb T P m bu = true) : psb T P (nd P m).2.1 bu = true := by
  obtain ⟨⟨L, eL⟩, hS⟩ := psb_t h
  obtain ⟨A, B, eA, eB, -, -⟩ := EV_some hw hm eL
  unfold EA at eA
  rw [if_neg h0] at eA
  refine psb_mk eA ?_
  rw [ST_eq hw hm] at hS
  unfold SA at hS
  rw [if_neg h0] at hS
  omega
theorem psb_b {T : QT} {P : List Nd} {m bu : Nat} (hw : Pw T P) (hm : m < P.length) (h0 : (nd P m).2.2.1 ≠ 0) (h : psb T P m bu = true) : psb T P ((nd P m).2.2.1 - 1) bu = true := by
  obtain ⟨⟨L, eL⟩, hS⟩ := psb_t h
  obtain ⟨A, B, eA, eB, -, -⟩ := EV_some hw hm eL
  unfold EB at eB
  rw [if_neg h0] at eB
  refine psb_mk eB ?_
  rw [ST_eq hw hm] at hS
  unfold SB at hS
  rw [if_neg h0] at hS
  omega
theorem er_rf (A : List (List Int32)) : (er A A).isSome = true := (er_iff A A rfl).mpr (List.Perm.refl A)
theorem same_rf {T : QT} {P : List Nd} {m o : Nat} {A : List (List Int32)} (e1 : EV T P m = some A) (e2 : EV T P o = some A) (hw : (nd P m).2.2.2.2.2.2 = (nd P o).2.2.2.2.2.2) : sameR T P m o = true := by
  unfold sameR
  rw [e1, e2]
  show (decide _ && (er A A).isSome) = true
  rw [er_rf, decide_eq_true ⟨hw, rfl⟩]
  rfl
theorem prR_le (k c d wb : Nat) (B : List (List Int32)) (X : List Int32) : (prR k c d wb B X).length ≤ max 1 B.length := by
  have hN : (prN B d X (X.getD c UK) B.length).length ≤ B.length := by
    rw [prN_eq B d X _ B.length (Nat.le_refl _), List.take_length, List.length_map]
    exact List.length_filter_le _ _
  unfold prR
  by_cases u : X.getD c UK = UK
  · rw [if_pos u]
    by_cases e : ([] : List (List Int32)) = [] ∧ k ≠ 0
    · rw [if_pos e]
      show 1 ≤ _
      omega
    · rw [if_neg e]
      exact Nat.zero_le _
  · rw [if_neg u]
    by_cases e : prN B d X (X.getD c UK) B.length = [] ∧ k ≠ 0
    · rw [if_pos e]
      show 1 ≤ _
      omega
    · rw [if_neg e]
      omega
theorem flJ_len (k c d wb : Nat) (A B : List (List Int32)) : ∀ i, (flJ k c d wb A B i).length ≤ i * max 1 B.length
  | 0 => Nat.zero_le _
  | i + 1 => by
    rw [flJ, List.length_append, Nat.succ_mul]
    exact Nat.add_le_add (flJ_len k c d wb A B i) (prR_le _ _ _ _ _ _)
theorem ddN_len (R A : List (List Int32)) : ∀ i, (ddN R A i).length ≤ R.length + i
  | 0 => Nat.le_refl _
  | i + 1 => by
    have := ddN_len R A i
    rw [ddN]
    split
    · omega
    · rw [List.length_append]
      show _ + 1 ≤ _
      omega
theorem fil_len {T : QT} {q : Nd} (hq : q.1 < 5) (h0 : q.1 ≠ 0) (wb : Nat) (A B : List (List Int32)) : (q.1 = 1 ∨ q.1 = 3 → (fil T q wb A B).length ≤ A.length) ∧ (q.1 = 2 → (fil T q wb A B).length ≤ A.length * B.length ∨ (fil T q wb A B).length ≤ A.length) ∧ (q.1 = 4 → (fil T q wb A B).length ≤ A.length + B.length) := by
  unfold fil
  rw [if_neg h0]
  refine ⟨fun z => ?_, fun z => ?_, fun z => ?_⟩
  · rcases z with z | z
    · rw [if_pos z]
      exact flF_le _ _ _ _ _
    · rw [if_neg (by omega), if_neg (by omega), if_pos z]
      exact gpN_le _ _ _ _ _
  · rw [if_neg (by omega), if_pos z]
    by_cases k : q.2.2.2.1 < 2
    · rw [if_pos k]
      have h := flJ_len q.2.2.2.1 q.2.2.2.2.1 q.2.2.2.2.2.1.toNatClampNeg wb A B A.length
      by_cases hb : B.length = 0
      · rw [hb] at h
        have : max 1 0 = 1 := rfl
        rw [this, Nat.mul_one] at h
        exact Or.inr h
      · rw [show max 1 B.length = B.length by omega] at h
        exact Or.inl h
    · rw [if_neg k]
      exact Or.inr (flT_le _ _ _ _ _ _)
  · rw [if_neg (by omega), if_neg (by omega), if_neg (by omega)]
    by_cases k0 : q.2.2.2.1 = 0
    · rw [if_pos k0, List.length_append]
      exact Nat.le_refl _
    · rw [if_neg k0]
      by_cases k3 : q.2.2.2.1 = 3
      · rw [if_pos k3]
        have a1 := ddN_len (ddN [] A A.length) B B.length
        have a2 := ddN_len [] A A.length
        have a3 : ([] : List (List Int32)).length = 0 := rfl
        omega
      · rw [if_neg k3]
        have := kp_le A (tkm A B B.length) (decide (q.2.2.2.1 = 2)) A.length
        omega
/-- a possible node: its rows, its steps -/
theorem nd_fit {T : QT} {P : List Nd} {m bu : Nat} (hw : Pw T P) (hm : m < P.length) (h0 : (nd P m).1 ≠ 0) (h : psb T P m bu = true) :
    ST T P m = oL (EV T P m) + ST T P (nd P m).2.1 + (if (nd P m).2.2.1 = 0 then 0 else ST T P ((nd P m).2.2.1 - 1)) ∧
    ((nd P m).1 = 1 ∨ (nd P m).1 = 3 → oL (EV T P m) ≤ oL (EV T P (nd P m).2.1)) ∧
    ((nd P m).1 = 2 → oL (EV T P m) ≤ oL (EV T P (nd P m).2.1) * oL (EV T P ((nd P m).2.2.1 - 1)) ∨ oL (EV T P m) ≤ oL (EV T P (nd P m).2.1)) ∧
    ((nd P m).1 = 4 → oL (EV T P m) ≤ oL (EV T P (nd P m).2.1) + oL (EV T P ((nd P m).2.2.1 - 1))) := by
  obtain ⟨hB, hwd, c0, c1, c2, c3, c4, c5⟩ := hw.2 m hm
  obtain ⟨⟨L, eL⟩, hS⟩ := psb_t h
  obtain ⟨A, B, eA, eB, e, -⟩ := EV_some hw hm eL
  unfold EA at eA
  rw [if_neg h0] at eA
  have hb : (nd P m).2.2.1 ≠ 0 → EV T P ((nd P m).2.2.1 - 1) = some B := fun z => by
    unfold EB at eB
    rw [if_neg z] at eB
    exact eB
  obtain ⟨f1, f2, f3⟩ := fil_len (T := T) hB.1 h0 (nd P ((nd P m).2.2.1 - 1)).2.2.2.2.2.2 A B
  have eo : oL (EV T P m) = (fil T (nd P m) (nd P ((nd P m).2.2.1 - 1)).2.2.2.2.2.2 A B).length := by rw [eL, e]; rfl
  refine ⟨?_, fun z => ?_, fun z => ?_, fun z => ?_⟩
  · rw [ST_eq hw hm]
    unfold SA SB
    rw [if_neg h0]
  · rw [eo, eA]
    exact f1 z
  · rw [eo, eA, hb (c3 z).1]
    exact f2 z
  · rw [eo, eA, hb (c5 z).1]
    exact f3 z
/-- what has been rewritten has the same rows -/
theorem keep9 {T : QT} {P P2 : List Nd} {m r : Nat} {A B : List (List Int32)} (hw : Pw T P) (hd : Pd P) (hm : m < P.length) (er : rwS (m + 1) P m [] = some (r, P2)) (e1 : EV T P2 m = some A) (e2 : EV T P2 r = some B) : A = B := by
  obtain ⟨w2, d2, x2, r2, -⟩ := rw_ok hw hd hm (fun e he => by cases he) er
  have h1 : TV T P2 m = A := ev_tv _ _ _ e1
  have h2 : TV T P2 r = B := ev_tv _ _ _ e2
  rw [← h1, ← h2, rw_tv hw hd hm (fun e he => by cases he) er, pa_n, TV_x hw x2 hm]
theorem keepR {T : QT} {P P2 : List Nd} {m r bu : Nat} {Kk Vv : List Q4} (hw : Pw T P) (hd : Pd P) (hm : m < P.length) (er : rwS (m + 1) P m [] = some (r, P2)) : ¬ sameRR (T, P2, bu, Kk, Vv) m r = 0 := by
  obtain ⟨w2, d2, x2, r2, ew⟩ := rw_ok hw hd hm (fun e he => by cases he) er
  unfold sameRR
  by_cases h : (psb T P2 m bu && psb T P2 r bu) = true
  · obtain ⟨h1, h2⟩ := Bool.and_eq_true_iff.mp h
    obtain ⟨⟨A, eA⟩, -⟩ := psb_t h1
    obtain ⟨⟨B, eB⟩, -⟩ := psb_t h2
    have e := keep9 hw hd hm er eA eB
    subst e
    have hs := same_rf eA eB (by rw [ew, x2.g hm])
    rw [if_pos h]
    show ¬ bI (sameR T P2 m r) = 0
    rw [hs]
    decide
  · rw [if_neg h]
    decide
