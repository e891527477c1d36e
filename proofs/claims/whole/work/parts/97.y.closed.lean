/-! pure: the places are closed -/
def Hy (P : List Nd) (k : Nat) (S : Nat → Bool) (L : List Nat) (w : Nat) : Prop := k ≤ P.length ∧ okL w L ∧ ∀ n, n < k → S n = true → (nd P n).2.2.2.2.2.2 = w
theorem Hy.dn {P : List Nd} {k w : Nat} {S : Nat → Bool} {L : List Nat} (h : Hy P (k + 1) S L w) : Hy P k S L w := ⟨by have := h.1; omega, h.2.1, fun n hn => h.2.2 n (by omega)⟩
theorem Hy.one {P : List Nd} {k w a : Nat} {L : List Nat} (hk : k ≤ P.length) (hok : okL w L) (hw : (nd P a).2.2.2.2.2.2 = w) : Hy P k (one9 a) L w := ⟨hk, hok, fun n _ h => by rw [of_decide_eq_true h]; exact hw⟩
theorem Hy.ad {P : List Nd} {k w a : Nat} {S : Nat → Bool} {L : List Nat} (h : Hy P k S L w) (hw : (nd P a).2.2.2.2.2.2 = w) : Hy P k (ad9 S a) L w := ⟨h.1, h.2.1, fun n hn hS => by
  have hS : (S n || decide (n = a)) = true := hS
  by_cases e : n = a
  · rw [e]; exact hw
  · rw [decide_eq_false e, Bool.or_false] at hS
    exact h.2.2 n hn hS⟩
theorem one9_a (a : Nat) : one9 a a = true := decide_eq_true rfl
theorem ad9_a (S : Nat → Bool) (a : Nat) : ad9 S a a = true := by
  show (S a || decide (a = a)) = true
  rw [decide_eq_true rfl, Bool.or_true]
theorem ad9_s {S : Nat → Bool} {a n : Nat} (h : S n = true) : ad9 S a n = true := by
  show (S n || decide (n = a)) = true
  rw [h]; rfl
/-- a place among places, its lists among lists -/
def Qp (P : List Nd) (X : List (Nat × List Nat)) (Y : List (List Nat)) (L : List Nat) (n : Nat) (M : List Nat) : Prop := okL (nd P n).2.2.2.2.2.2 M ∧ ((nd P n).1 = 1 → ((nd P n).2.1, qco (nd P n) :: M) ∈ X) ∧ ((nd P n).1 ≠ 0 → (nd P n).1 ≠ 1 → (((nd P n).2.1, cF P n M) ∈ X ∨ cF P n M = []) ∧ ((nd P n).2.2.1 ≠ 0 → ((nd P n).2.2.1 - 1, cS P n M) ∈ X ∨ cS P n M = [])) ∧ ∀ H N, M = H ++ N → N ≠ [] → N ∈ Y ∨ ∃ H2, L = H2 ++ N
theorem Qp.mono {P : List Nd} {X X2 : List (Nat × List Nat)} {Y Y2 : List (List Nat)} {L L2 : List Nat} {n : Nat} {M : List Nat} (h : Qp P X Y L n M) (hX : ∀ x, x ∈ X → x ∈ X2) (hY : ∀ N, N ∈ Y → N ∈ Y2) (hL : ∀ H N, L = H ++ N → N ≠ [] → N ∈ Y2 ∨ ∃ H2, L2 = H2 ++ N) : Qp P X2 Y2 L2 n M := by
  obtain ⟨a, b, c, d⟩ := h
  refine ⟨a, fun e => hX _ (b e), fun e0 e1 => ⟨(c e0 e1).1.imp (hX _) id, fun e => ((c e0 e1).2 e).imp (hX _) id⟩, fun H N e hN => ?_⟩
  rcases d H N e hN with z | ⟨H2, z⟩
  · exact Or.inl (hY N z)
  · exact hL H2 N z hN
theorem Up_cl {T : QT} {P : List Nd} (hw : Pw T P) : ∀ (k : Nat) {S : Nat → Bool} {L : List Nat} {w : Nat}, Hy P k S L w → ∀ n M, (n, M) ∈ Up P k S L → n < k ∧ Qp P (Up P k S L) (Vp P k S L) L n M
  | 0, S, L, w, _, n, M, h => by cases h
  | k + 1, S, L, w, hy, n, M, h => by
    have hkP : k < P.length := hy.1
    have hyd := hy.dn
    rw [Up] at h ⊢
    rw [Vp]
    by_cases eS : S k = false
    · rw [if_pos eS] at h ⊢
      rw [if_pos eS]
      obtain ⟨a, b⟩ := Up_cl hw k hyd n M h
      exact ⟨by omega, b⟩
    · rw [if_neg eS] at h ⊢
      rw [if_neg eS]
      have eS1 : S k = true := by
        cases e : S k
        · exact absurd e eS
        · rfl
      have hwk : (nd P k).2.2.2.2.2.2 = w := hy.2.2 k (Nat.lt_succ_self k) eS1
      have hok : okL (nd P k).2.2.2.2.2.2 L := by rw [hwk]; exact hy.2.1
      by_cases e1 : (nd P k).1 = 1
      · rw [if_pos e1] at h ⊢
        rw [if_pos e1]
        obtain ⟨ha, hwa, hok2⟩ := kd_1 hw hkP e1 hok
        have hy2 : Hy P k (one9 (nd P k).2.1) (qco (nd P k) :: L) w := Hy.one (Nat.le_of_lt hkP) (by rw [← hwk]; exact hok2) (hwa.trans hwk)
        rcases List.mem_cons.mp h with z | z
        · cases z
          exact ⟨Nat.lt_succ_self _, hok, fun _ => List.mem_cons_of_mem _ (List.mem_append.2 (Or.inr (Up_in ha (one9_a _)))), fun _ z => absurd e1 z, fun H N e _ => Or.inr ⟨H, e⟩⟩
        · rcases List.mem_append.mp z with z | z
          · obtain ⟨a, b⟩ := Up_cl hw k hyd n M z
            exact ⟨by omega, b.mono (fun x hx => List.mem_cons_of_mem _ (List.mem_append.2 (Or.inl hx))) (fun N hN => List.mem_cons_of_mem _ (List.mem_append.2 (Or.inl hN))) (fun H N e _ => Or.inr ⟨H, e⟩)⟩
          · obtain ⟨a, b⟩ := Up_cl hw k hy2 n M z
            refine ⟨by omega, b.mono (fun x hx => List.mem_cons_of_mem _ (List.mem_append.2 (Or.inr hx))) (fun N hN => List.mem_cons_of_mem _ (List.mem_append.2 (Or.inr hN))) (fun H N e hN => ?_)⟩
            cases H with
            | nil =>
              have e : qco (nd P k) :: L = N := e
              rw [← e]
              exact Or.inl List.mem_cons_self
            | cons x H =>
              have e : qco (nd P k) :: L = x :: (H ++ N) := e
              injection e with _ e
              exact Or.inr ⟨H, e⟩
      · rw [if_neg e1] at h ⊢
        rw [if_neg e1]
        by_cases e2 : (nd P k).1 = 2 ∧ (nd P k).2.2.2.1 < 2
        · rw [if_pos e2] at h ⊢
          rw [if_pos e2]
          obtain ⟨ha, hb0, hb, hws, okF, okS⟩ := kd_2 hw hkP e2 hok
          have hyF : Hy P k (one9 (nd P k).2.1) (cF P k L) (nd P (nd P k).2.1).2.2.2.2.2.2 := Hy.one (Nat.le_of_lt hkP) okF rfl
          have hyS : Hy P k (one9 ((nd P k).2.2.1 - 1)) (cS P k L) (nd P ((nd P k).2.2.1 - 1)).2.2.2.2.2.2 := Hy.one (Nat.le_of_lt hkP) okS rfl
          rcases List.mem_cons.mp h with z | z
          · cases z
            exact ⟨Nat.lt_succ_self _, hok, fun z => absurd z e1, fun _ _ => ⟨Or.inl (List.mem_cons_of_mem _ (List.mem_append.2 (Or.inr (List.mem_append.2 (Or.inl (Up_in ha (one9_a _))))))), fun _ => Or.inl (List.mem_cons_of_mem _ (List.mem_append.2 (Or.inr (List.mem_append.2 (Or.inr (Up_in hb (one9_a _)))))))⟩, fun H N e _ => Or.inr ⟨H, e⟩⟩
          · rcases List.mem_append.mp z with z | z
            · obtain ⟨a, b⟩ := Up_cl hw k hyd n M z
              exact ⟨by omega, b.mono (fun x hx => List.mem_cons_of_mem _ (List.mem_append.2 (Or.inl hx))) (fun N hN => List.mem_append.2 (Or.inr (List.mem_append.2 (Or.inl hN)))) (fun H N e _ => Or.inr ⟨H, e⟩)⟩
            · rcases List.mem_append.mp z with z | z
              · obtain ⟨a, b⟩ := Up_cl hw k hyF n M z
                exact ⟨by omega, b.mono (fun x hx => List.mem_cons_of_mem _ (List.mem_append.2 (Or.inr (List.mem_append.2 (Or.inl hx))))) (fun N hN => List.mem_append.2 (Or.inr (List.mem_append.2 (Or.inr (List.mem_append.2 (Or.inl hN)))))) (fun H N e hN => Or.inl (List.mem_append.2 (Or.inl (List.mem_append.2 (Or.inl (sfx_m hN e))))))⟩
              · obtain ⟨a, b⟩ := Up_cl hw k hyS n M z
                exact ⟨by omega, b.mono (fun x hx => List.mem_cons_of_mem _ (List.mem_append.2 (Or.inr (List.mem_append.2 (Or.inr hx))))) (fun N hN => List.mem_append.2 (Or.inr (List.mem_append.2 (Or.inr (List.mem_append.2 (Or.inr hN)))))) (fun H N e hN => Or.inl (List.mem_append.2 (Or.inl (List.mem_append.2 (Or.inr (sfx_m hN e))))))⟩
        · rw [if_neg e2] at h ⊢
          rw [if_neg e2]
          by_cases e3 : (nd P k).1 = 2
          · rw [if_pos e3] at h ⊢
            rw [if_pos e3]
            obtain ⟨ha, hwa, eF, eC⟩ := kd_3 hw hkP e3 (fun z => e2 ⟨e3, z⟩) hok
            have hy2 := hyd.ad (hwa.trans hwk)
            rcases List.mem_cons.mp h with z | z
            · cases z
              exact ⟨Nat.lt_succ_self _, hok, fun z => absurd z e1, fun _ _ => ⟨Or.inl (List.mem_cons_of_mem _ (by rw [eF]; exact Up_in ha (ad9_a _ _))), fun _ => Or.inr eC⟩, fun H N e _ => Or.inr ⟨H, e⟩⟩
            · obtain ⟨a, b⟩ := Up_cl hw k hy2 n M z
              exact ⟨by omega, b.mono (fun x hx => List.mem_cons_of_mem _ hx) (fun N hN => hN) (fun H N e _ => Or.inr ⟨H, e⟩)⟩
          · rw [if_neg e3] at h ⊢
            rw [if_neg e3]
            by_cases e4 : (nd P k).1 = 4 ∧ (nd P k).2.2.2.1 = 0
            · rw [if_pos e4] at h ⊢
              rw [if_pos e4]
              obtain ⟨ha, hb, hwa, hwb, eF, eC⟩ := kd_4 (L := L) hw hkP e4
              have hy2 := (hyd.ad (hwa.trans hwk)).ad (hwb.trans hwk)
              rcases List.mem_cons.mp h with z | z
              · cases z
                exact ⟨Nat.lt_succ_self _, hok, fun z => absurd z e1, fun _ _ => ⟨Or.inl (List.mem_cons_of_mem _ (by rw [eF]; exact Up_in ha (ad9_s (ad9_a _ _)))), fun _ => Or.inl (List.mem_cons_of_mem _ (by rw [eC]; exact Up_in hb (ad9_a _ _)))⟩, fun H N e _ => Or.inr ⟨H, e⟩⟩
              · obtain ⟨a, b⟩ := Up_cl hw k hy2 n M z
                exact ⟨by omega, b.mono (fun x hx => List.mem_cons_of_mem _ hx) (fun N hN => hN) (fun H N e _ => Or.inr ⟨H, e⟩)⟩
            · rw [if_neg e4] at h ⊢
              rw [if_neg e4]
              rcases List.mem_cons.mp h with z | z
              · cases z
                exact ⟨Nat.lt_succ_self _, hok, fun z => absurd z e1, fun _ _ => ⟨Or.inr (cF_0 e3 e4), fun _ => Or.inr (cS_0 e3 e4)⟩, fun H N e _ => Or.inr ⟨H, e⟩⟩
              · obtain ⟨a, b⟩ := Up_cl hw k hyd n M z
                exact ⟨by omega, b.mono (fun x hx => List.mem_cons_of_mem _ hx) (fun N hN => hN) (fun H N e _ => Or.inr ⟨H, e⟩)⟩
