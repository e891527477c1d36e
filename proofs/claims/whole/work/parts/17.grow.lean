/-! the reference's growing rows -/
def q_gf : List Nat := [25, 26, 28, 29, 30]
def Gr (S : QS) : Prop := ∀ j, j ∈ q_gf → ∃ p : Nat, S.2.2.2.2 51 j = some p ∧ 70 ≤ p ∧ p < S.2.1 ∧ S.2.2.1 p = 9
def Sa (S : QS) : Prop := Sh S ∧ q_cl S ∧ Gr S ∧ S.2.1 < 900000
def Ex (S S2 : QS) : Prop := S.2.1 ≤ S2.2.1 ∧ (∀ r, r < S.2.1 → S2.1 r = S.1 r ∧ S2.2.2.1 r = S.2.2.1 r ∧ S2.2.2.2.1 r = S.2.2.2.1 r) ∧ ∀ r, 900000 ≤ r → S2.1 r = S.1 r
theorem Ex.rf {S : QS} : Ex S S := ⟨Nat.le_refl _, fun _ _ => ⟨rfl, rfl, rfl⟩, fun _ _ => rfl⟩
theorem Ex.tr {S S2 S3 : QS} (h : Ex S S2) (h2 : Ex S2 S3) : Ex S S3 := ⟨Nat.le_trans h.1 h2.1, fun r hr => by
  obtain ⟨a1, a2, a3⟩ := h.2.1 r hr
  obtain ⟨b1, b2, b3⟩ := h2.2.1 r (Nat.lt_of_lt_of_le hr h.1)
  exact ⟨b1.trans a1, b2.trans a2, b3.trans a3⟩, fun r hr => (h2.2.2 r hr).trans (h.2.2 r hr)⟩
theorem q_cl_new {S : QS} (h : q_cl S) (a ci z : Nat) : q_cl (q_nS S a ci z) := by
  intro j i r hj hr
  show r < S.2.1 + 1
  by_cases e : j = S.2.1
  · have e2 : (q_nS S a ci z).2.2.2.2 j = fun _ => none := if_pos e
    rw [e2] at hr
    cases hr
  · have e2 : (q_nS S a ci z).2.2.2.2 j = S.2.2.2.2 j := if_neg e
    rw [e2] at hr
    have hj2 : j < S.2.1 + 1 := hj
    have := h j i r (by omega) hr
    omega
theorem q_cl_put {S : QS} (h : q_cl S) {q j r : Nat} (hr : r < S.2.1) : q_cl (q_sR S (q_u2 S.2.2.2.2 q j (some r))) := by
  intro j2 i r2 hj h2
  show r2 < S.2.1
  have h3 : q_u2 S.2.2.2.2 q j (some r) j2 i = some r2 := h2
  unfold q_u2 at h3
  by_cases e : j2 = q ∧ i = j
  · rw [if_pos e] at h3
    cases h3
    exact hr
  · rw [if_neg e] at h3
    exact h j2 i r2 hj h3
theorem Sh.new {S : QS} (h : Sh S) (a ci z : Nat) : Sh (q_nS S a ci z) := by
  have hN := h.1
  have hl : ∀ (l : List Nat) (j c : Nat), l.length = 80 → l[j]? = some c → j < 80 := fun l j c h1 h2 => by rw [← h1]; exact (List.getElem?_eq_some_iff.mp h2).1
  refine ⟨Nat.le_succ_of_le hN, fun j c hj => ?_, fun j c hj => ?_, fun k l j r hk hj => ?_⟩
  · have := hl q_K0 j c rfl hj
    exact (if_neg (by omega)).trans (h.2.1 j c hj)
  · have := hl q_Z0 j c rfl hj
    exact (if_neg (by omega)).trans (h.2.2.1 j c hj)
  · have hk2 : k < 80 := Nat.lt_of_lt_of_le (List.getElem?_eq_some_iff.mp hk).1 (by decide)
    have e2 : (q_nS S a ci z).2.2.2.2 k = S.2.2.2.2 k := if_neg (by omega)
    rw [e2]
    exact h.2.2.2 k l j r hk hj
theorem q_gfR : ∀ j, j ∈ q_gf → (q_R0[51]?.bind (fun l => l[j]?)) = some none := by decide
theorem Sa.put {S : QS} (h : Sa S) {j q : Nat} (hj : j ∈ q_gf) (hq : 70 ≤ q) (hq2 : q < S.2.1) (hk : S.2.2.1 q = 9) : Sa (q_sR S (q_u2 S.2.2.2.2 51 j (some q))) := by
  refine ⟨⟨h.1.1, h.1.2.1, h.1.2.2.1, fun k l i r hk2 hi => ?_⟩, q_cl_put h.2.1 hq2, fun i hi => ?_, h.2.2.2⟩
  · show q_u2 S.2.2.2.2 51 j (some q) k i = some r
    unfold q_u2
    by_cases e : k = 51 ∧ i = j
    · obtain ⟨rfl, rfl⟩ := e
      have h9 := q_gfR i hj
      rw [hk2] at h9
      have h10 : l[i]? = some none := h9
      rw [hi] at h10
      cases h10
    · rw [if_neg e]
      exact h.1.2.2.2 k l i r hk2 hi
  · by_cases e : i = j
    · subst e
      exact ⟨q, q_u2_s _ _ _ _, hq, hq2, hk⟩
    · obtain ⟨p, h1, h2⟩ := h.2.2.1 i hi
      exact ⟨p, (q_u2_j _ _ _ e).trans h1, h2⟩
theorem Sa.new {S : QS} (h : Sa S) (hb : S.2.1 + 1 < 900000) (a ci z : Nat) : Sa (q_nS S a ci z) := by
  refine ⟨h.1.new a ci z, q_cl_new h.2.1 a ci z, fun i hi => ?_, hb⟩
  obtain ⟨p, h1, h2, h3, h4⟩ := h.2.2.1 i hi
  have := h.1.1
  have e2 : (q_nS S a ci z).2.2.2.2 51 = S.2.2.2.2 51 := if_neg (by omega)
  exact ⟨p, by rw [e2]; exact h1, h2, Nat.lt_succ_of_lt h3, (if_neg (Nat.ne_of_lt h3)).trans h4⟩
theorem Ex.new (S : QS) (hb : S.2.1 < 900000) (a ci z : Nat) : Ex S (q_nS S a ci z) := ⟨Nat.le_succ _, fun r hr => ⟨if_neg (Nat.ne_of_lt hr), if_neg (Nat.ne_of_lt hr), if_neg (Nat.ne_of_lt hr)⟩, fun r hr => if_neg (by omega)⟩
theorem Ex.put (S : QS) (R : Nat → Nat → Option Nat) : Ex S (q_sR S R) := ⟨Nat.le_refl _, fun _ _ => ⟨rfl, rfl, rfl⟩, fun _ _ => rfl⟩
def q_b80 (l : List Value) : Bool := l.all (fun v => match v with | .ref r => Nat.blt r 80 || Nat.ble 900000 r | _ => true)
theorem q_vb80 {S : QS} (h : Sh S) {l : List Value} (hl : q_b80 l = true) : q_vb S.2.1 l := by
  intro r hr
  have h1 : (Nat.blt r 80 || Nat.ble 900000 r) = true := List.all_eq_true.mp hl _ hr
  rcases Bool.or_eq_true_iff.mp h1 with h2 | h2
  · exact Or.inl (h.n r h2)
  · exact Or.inr (Nat.le_of_ble_eq_true h2)
def q_Pa (S : QS) (J : QJ) (P : Int32 → QS → QI → Prop) : QP := fun o S2 I2 J2 => ∃ r : Int32, o = .inl (some (.int r)) ∧ J2 = J ∧ Sa S2 ∧ Ex S S2 ∧ P r S2 I2
def q_Pg (S : QS) (J : QJ) (P : Nat → QS → QI → Prop) : QP := fun o S2 I2 J2 => ∃ q : Nat, o = .inl (some (.ref q)) ∧ J2 = J ∧ Sa S2 ∧ Ex S S2 ∧ 70 ≤ q ∧ q < S2.2.1 ∧ S2.2.2.1 q = 9 ∧ P q S2 I2
section QGA
variable {X : QX} {M : MD} {d cT sT : Nat} {Q : QP} {pc : Nat} {lo : List (Nat × Value)} {st : List Value} {S : QS} {I : QI} {J : QJ} {k n : Nat}
theorem V_memS (kk : ∀ S2 : QS, S2 = S → V X M d cT sT Q pc lo st S2 I J k n) : V X M d cT sT Q pc lo st S I J k n := kk S rfl
theorem q_agr {S S2 : QS} {lo : List (Nat × Value)} {st : List Value} (hE : Ex S S2) (hbl : q_vb S.2.1 (lo.map (·.2))) (hbs : q_vb S.2.1 st) : q_lc S2.1 lo = q_lc S.1 lo ∧ st.map (q_cv S2.1) = st.map (q_cv S.1) :=
  ⟨q_lb_cv (fun r hr => hr.elim (fun z => (hE.2.1 r z).1) (hE.2.2 r)) hbl, q_vb_cv (fun r hr => hr.elim (fun z => (hE.2.1 r z).1) (hE.2.2 r)) hbs⟩
theorem V_callVa {M2 : MD} {d2 c2 s2 q ci idx : Nat} {P : Int32 → QS → QI → Prop} (As : List Value) (hd : decode M.2.2.1 pc = .ok (.invokevirtual idx, 3)) (ok : q_ok M2 As.length) (hh : M2.2.2.2.2.2 = []) (hlk : Cond.methodLink M.1 idx M2.2.1 ∈ q_TB) (hin : Cond.instanceMethod M2.2.1 ∈ q_TB) (hse : Cond.selects M2.2.1.cls M2.2.1 M2.2.1 ∈ q_TB)
    (hq : q < S.2.1) (hk : S.2.2.1 q = ci) (hci : ci < 9) (hcn : q_Cn ci = M2.2.1.cls) (hst : (st.map fun v => v.category).sum ≤ 8) (hdp : d2 + 1 ≤ d) (hc : k + c2 ≤ cT) (hs : n + s2 ≤ sT) (hbl : q_vb S.2.1 (lo.map (·.2))) (hbs : q_vb S.2.1 st) (C2 : CX X M2 d2 c2 s2 (.ref q :: As) S I J (q_Pa S J P))
    (kk : ∀ (r : Int32) (S2 : QS) (I2 : QI), Sa S2 → Ex S S2 → P r S2 I2 → V X M d cT sT Q (pc + 3) lo (.int r :: st) S2 I2 J (k + c2) (n + s2)) : V X M d cT sT Q pc lo (As.reverse ++ .ref q :: st) S I J k n := by
  refine V_callV hd ok hh hlk hin hse hq hk hci hcn hst hdp hc hs C2 ?_ ?_ ?_ ?_
  · rintro v S2 I2 J2 ⟨r, -, -, -, hE, -⟩; exact q_agr hE hbl hbs
  · rintro E S2 I2 J2 ⟨r, h, -⟩; cases h
  · rintro v S2 I2 J2 ⟨r, h, rfl, hA, hE, hp⟩; cases h; exact kk r S2 I2 hA hE hp
  · rintro E S2 I2 J2 ⟨r, h, -⟩; cases h
theorem V_callSg {M2 : MD} {d2 c2 s2 idx : Nat} {P : Nat → QS → QI → Prop} (As : List Value) (hd : decode M.2.2.1 pc = .ok (.invokestatic idx, 3)) (ok : q_ok M2 As.length) (hh : M2.2.2.2.2.2 = []) (hlk : Cond.methodLink M.1 idx M2.2.1 ∈ q_TB) (hstt : Cond.static M2.2.1 ∈ q_TB)
    (hst : (st.map fun v => v.category).sum ≤ 8) (hdp : d2 + 1 ≤ d) (hc : k + c2 ≤ cT) (hs : n + s2 ≤ sT) (hbl : q_vb S.2.1 (lo.map (·.2))) (hbs : q_vb S.2.1 st) (C2 : CX X M2 d2 c2 s2 As S I J (q_Pg S J P))
    (kk : ∀ (q : Nat) (S2 : QS) (I2 : QI), Sa S2 → Ex S S2 → 70 ≤ q → q < S2.2.1 → S2.2.2.1 q = 9 → P q S2 I2 → V X M d cT sT Q (pc + 3) lo (.ref q :: st) S2 I2 J (k + c2) (n + s2)) : V X M d cT sT Q pc lo (As.reverse ++ st) S I J k n := by
  refine V_callS hd ok hh hlk hstt hst hdp hc hs C2 ?_ ?_ ?_ ?_
  · rintro v S2 I2 J2 ⟨r, -, -, -, hE, -⟩; exact q_agr hE hbl hbs
  · rintro E S2 I2 J2 ⟨r, h, -⟩; cases h
  · rintro v S2 I2 J2 ⟨r, h, rfl, hA, hE, h1, h2, h3, hp⟩; cases h; exact kk r S2 I2 hA hE h1 h2 h3 hp
  · rintro E S2 I2 J2 ⟨r, h, -⟩; cases h
end QGA
/-- a row twice as long -/
def wX8_longer (p : Nat) (S : QS) (I : QI) (c s : Nat) (post : Nat → QS → QI → Prop) : Prop := (S.2.1 < 899999 ∧ S.2.2.2.1 p ≤ 4194304) ∧ 1 ≤ c ∧ 2 * S.2.2.2.1 p ≤ s ∧ ∀ a : Nat, post S.2.1 (q_nS S a 9 (2 * S.2.2.2.1 p)) (q_rw I S.2.1 (fun j => if j < S.2.2.2.1 p then I p j else 0))
theorem s_longer_9 {X : QX} {S0 S : QS} {p q z c s kk nn : Nat} {I0 : QI} {J : QJ} {post : Nat → QS → QI → Prop} (hz9 : z ≤ 4194304) (hA : Sa S) (hE : Ex S0 S) (hp : p < S.2.1) (hpk : S.2.2.1 p = 9) (hpz : S.2.2.2.1 p = z) (hq : q < S.2.1) (hq7 : 70 ≤ q) (hqk : S.2.2.1 q = 9) (hqz : S.2.2.2.1 q = 2 * z) (hpq : p ≠ q) (hkc : kk ≤ c) (hns : nn ≤ s) (h : post q S (q_rw I0 q (fun j => if j < z then I0 p j else 0))) :
    ∀ (m i : Nat) (I1 : QI), i + m = z → I1 = q_rw I0 q (fun j => if j < i then I0 p j else 0) → V X mX8_longer 0 c s (q_Pg S0 J post) 9 [(0, .ref p), (1, .ref q), (2, .int (nI i))] [] S I1 J kk nn := by
  intro m
  induction m with
  | zero =>
    intro i I1 hi hI
    refine V_iload_n dX8_longer_9 rfl rfl ?_
    refine V_aload_n dX8_longer_10 rfl rfl ?_
    refine V_alenI (v := nI z) dX8_longer_11 hp hpk (by rw [hpz]; rfl) ?_
    refine V_icmp_ge 27 dX8_longer_12 rfl (fun hc => ?_) (fun hc => ?_)
    · have e9 : i = z := by omega
      subst e9
      rw [hI]
      refine V_aload_n dX8_longer_27 rfl rfl ?_
      exact V_aret dX8_longer_28 rfl (Or.inr ⟨_, rfl⟩) (Or.inr ⟨_, rfl⟩) hkc hns ⟨q, rfl, rfl, hA, hE, hq7, hq, hqk, h⟩
    · exact absurd (nI_le (show z ≤ i by omega) (by omega)) hc
  | succ m ih =>
    intro i I1 hi hI
    refine V_iload_n dX8_longer_9 rfl rfl ?_
    refine V_aload_n dX8_longer_10 rfl rfl ?_
    refine V_alenI (v := nI z) dX8_longer_11 hp hpk (by rw [hpz]; rfl) ?_
    refine V_icmp_ge 27 dX8_longer_12 rfl (fun hc => ?_) (fun hc => ?_)
    · exact absurd hc (nI_ge (show i < z by omega) (by omega))
    · refine V_aload_n dX8_longer_15 rfl rfl ?_
      refine V_iload_n dX8_longer_16 rfl rfl ?_
      refine V_aload_n dX8_longer_17 rfl rfl ?_
      refine V_iload_n dX8_longer_18 rfl rfl ?_
      refine V_iald dX8_longer_19 hp hpk (by rw [hpz]; exact vp_in_nI (by omega) (by omega)) ?_
      refine V_iast dX8_longer_20 hq hqk (by rw [hqz]; exact vp_in_nI (by omega) (by omega)) ?_
      refine V_iinc (lo2 := [(2, .int (nI (i + 1))), (0, .ref p), (1, .ref q)]) 2 dX8_longer_21 rfl (v := nI (i + 1)) (nI_succ i).symm (by decide) rfl ?_
      refine V_goto 9 dX8_longer_24 rfl ?_
      refine V_sub (lo2 := [(0, .ref p), (1, .ref q), (2, .int (nI (i + 1)))]) [1, 2, 0] rfl ?_
      refine ih (i + 1) _ (by omega) ?_
      have e1 : I1 p = I0 p := by rw [hI]; exact if_neg hpq
      rw [e1, nI_clamp (by omega), hI]
      funext b j
      unfold q_u2 q_rw
      by_cases hb : b = q
      · by_cases hj : j = i
        · simp [hb, hj]
        · have : j < i + 1 ↔ j < i := by omega
          simp [hb, hj, this]
      · simp [hb]
theorem s_mX8_longer {X : QX} {S : QS} {p c s : Nat} {I : QI} {J : QJ} {post : Nat → QS → QI → Prop} (hA : Sa S) (hp : p < S.2.1) (hpk : S.2.2.1 p = 9) (h : wX8_longer p S I c s post) : CX X mX8_longer 0 c s [.ref p] S I J (q_Pg S J post) := by
  obtain ⟨⟨hb9, hz⟩, hc1, hs1, h⟩ := h
  obtain ⟨z, hpz⟩ : ∃ z, S.2.2.2.1 p = z := ⟨_, rfl⟩
  rw [hpz] at hz hs1 h
  have hN := hA.1.1
  refine CX.of (lo := [(0, .ref p)]) ok_mX8_longer rfl (Nat.le_of_ble_eq_true rfl) rfl ?_
  refine V_iconst (v := 2) dX8_longer_0 (by decide) ?_
  refine V_aload_n dX8_longer_1 rfl rfl ?_
  refine V_alenI (v := nI z) dX8_longer_2 hp hpk (by rw [hpz]; rfl) ?_
  refine V_imul dX8_longer_3 ?_
  have e2 : (2 : Int32) * nI z = nI (2 * z) := pk_mul 2 z
  rw [e2]
  refine V_newI (z := 2 * z) dX8_longer_4 ac_int (nI_pos (by omega)) (nI_clamp (by omega)) (by omega) (by omega) hA.2.1 (fun r hr => ?_) (fun r hr => nomatch hr) (by omega) (by omega) (fun a => ?_)
  · simp only [List.map_cons, List.map_nil, List.mem_cons, List.not_mem_nil, or_false] at hr
    cases hr
    exact Or.inl hp
  have hA2 := hA.new (by omega) a 9 (2 * z)
  have hpN : p ≠ S.2.1 := Nat.ne_of_lt hp
  refine V_astore_n (lo2 := [(1, .ref S.2.1), (0, .ref p)]) dX8_longer_6 rfl (by decide) rfl ?_
  refine V_iconst (v := 0) dX8_longer_7 (by decide) ?_
  refine V_istore_n (lo2 := [(2, .int 0), (1, .ref S.2.1), (0, .ref p)]) dX8_longer_8 rfl (by decide) rfl ?_
  refine V_sub (lo2 := [(0, .ref p), (1, .ref S.2.1), (2, .int 0)]) [2, 1, 0] rfl ?_
  have hr9 : q_rw (q_rw I S.2.1 (fun _ => 0)) S.2.1 (fun j => if j < z then q_rw I S.2.1 (fun _ => 0) p j else 0) = q_rw I S.2.1 (fun j => if j < z then I p j else 0) := by
    funext b j
    unfold q_rw
    by_cases hb : b = S.2.1
    · simp [hb, hpN]
    · simp [hb]
  refine s_longer_9 (z := z) (I0 := q_rw I S.2.1 (fun _ => 0)) hz hA2 (Ex.new S (by omega) a 9 (2 * z)) (Nat.lt_succ_of_lt hp) ((if_neg hpN).trans hpk) ((if_neg hpN).trans hpz) (Nat.lt_succ_self _) (by omega) (if_pos rfl) (if_pos rfl) hpN (by omega) (by omega) ?_ z 0 _ (by omega) ?_
  · rw [hr9]
    exact h a
  · funext b j
    unfold q_rw
    by_cases hb : b = S.2.1
    · simp [hb]
    · simp [hb]
