/-! cells that are added -/
def Ex (S S2 : QS) : Prop := S.2.1 ≤ S2.2.1 ∧ (∀ r, r < S.2.1 → S2.1 r = S.1 r ∧ S2.2.2.1 r = S.2.2.1 r ∧ S2.2.2.2.1 r = S.2.2.2.1 r) ∧ ∀ r, 900000 ≤ r → S2.1 r = S.1 r
theorem Ex.rf {S : QS} : Ex S S := ⟨Nat.le_refl _, fun _ _ => ⟨rfl, rfl, rfl⟩, fun _ _ => rfl⟩
theorem Ex.tr {S S2 S3 : QS} (h : Ex S S2) (h2 : Ex S2 S3) : Ex S S3 := ⟨Nat.le_trans h.1 h2.1, fun r hr => by
  obtain ⟨a1, a2, a3⟩ := h.2.1 r hr
  obtain ⟨b1, b2, b3⟩ := h2.2.1 r (Nat.lt_of_lt_of_le hr h.1)
  exact ⟨b1.trans a1, b2.trans a2, b3.trans a3⟩, fun r hr => (h2.2.2 r hr).trans (h.2.2 r hr)⟩
theorem q_cl_new {S : QS} (h : q_cl S) (a ci z : Nat) : q_cl (q_nS S a ci z) := by
  intro j i r hj hr
  show r < S.2.1 + 1
  by_cases e : j = S.2.1
  · have e2 : (q_nS S a ci z).2.2.2.2 j = fun _ => none := if_pos e
    rw [e2] at hr
    cases hr
  · have e2 : (q_nS S a ci z).2.2.2.2 j = S.2.2.2.2 j := if_neg e
    rw [e2] at hr
    have hj2 : j < S.2.1 + 1 := hj
    have := h j i r (by omega) hr
    omega
theorem q_cl_put {S : QS} (h : q_cl S) {q j r : Nat} (hr : r < S.2.1) : q_cl (q_sR S (q_u2 S.2.2.2.2 q j (some r))) := by
  intro j2 i r2 hj h2
  show r2 < S.2.1
  have h3 : q_u2 S.2.2.2.2 q j (some r) j2 i = some r2 := h2
  unfold q_u2 at h3
  by_cases e : j2 = q ∧ i = j
  · rw [if_pos e] at h3
    cases h3
    exact hr
  · rw [if_neg e] at h3
    exact h j2 i r2 hj h3
theorem Ex.new (S : QS) (hb : S.2.1 < 900000) (a ci z : Nat) : Ex S (q_nS S a ci z) := ⟨Nat.le_succ _, fun r hr => ⟨if_neg (Nat.ne_of_lt hr), if_neg (Nat.ne_of_lt hr), if_neg (Nat.ne_of_lt hr)⟩, fun r hr => if_neg (by omega)⟩
theorem Ex.put (S : QS) (R : Nat → Nat → Option Nat) : Ex S (q_sR S R) := ⟨Nat.le_refl _, fun _ _ => ⟨rfl, rfl, rfl⟩, fun _ _ => rfl⟩
theorem Sh.new {S : QS} (h : Sh S) (a ci z : Nat) : Sh (q_nS S a ci z) := by
  have hN := h.1
  have hl : ∀ (l : List Nat) (j c : Nat), l.length = 51 → l[j]? = some c → j < 51 := fun l j c h1 h2 => by rw [← h1]; exact (List.getElem?_eq_some_iff.mp h2).1
  refine ⟨Nat.le_succ_of_le hN, fun j c hj => ?_, fun j c hj => ?_, fun k l j r hk hj => ?_⟩
  · have := hl q_K0 j c rfl hj
    exact (if_neg (by omega)).trans (h.2.1 j c hj)
  · have := hl q_Z0 j c rfl hj
    exact (if_neg (by omega)).trans (h.2.2.1 j c hj)
  · have hk2 : k < 51 := Nat.lt_of_lt_of_le (List.getElem?_eq_some_iff.mp hk).1 (by decide)
    have e2 : (q_nS S a ci z).2.2.2.2 k = S.2.2.2.2 k := if_neg (by omega)
    rw [e2]
    exact h.2.2.2 k l j r hk hj
section QGA
variable {X : QX} {M : MD} {d cT sT : Nat} {Q : QP} {pc : Nat} {lo : List (Nat × Value)} {st : List Value} {S : QS} {I : QI} {J : QJ} {k n : Nat}
theorem V_memS (kk : ∀ S2 : QS, S2 = S → V X M d cT sT Q pc lo st S2 I J k n) : V X M d cT sT Q pc lo st S I J k n := kk S rfl
theorem q_agr {S S2 : QS} {lo : List (Nat × Value)} {st : List Value} (hE : Ex S S2) (hbl : q_vb S.2.1 (lo.map (·.2))) (hbs : q_vb S.2.1 st) : q_lc S2.1 lo = q_lc S.1 lo ∧ st.map (q_cv S2.1) = st.map (q_cv S.1) :=
  ⟨q_lb_cv (fun r hr => hr.elim (fun z => (hE.2.1 r z).1) (hE.2.2 r)) hbl, q_vb_cv (fun r hr => hr.elim (fun z => (hE.2.1 r z).1) (hE.2.2 r)) hbs⟩
end QGA
