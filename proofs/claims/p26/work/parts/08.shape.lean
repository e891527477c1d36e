/-! the cells as the constructors lay them: positions, kinds, sizes, references -/
def q_K0 : List Nat := [7, 4, 12, 5, 9, 11, 5, 9, 11, 5, 9, 11, 5, 9, 11, 2, 9, 9, 9, 9, 9, 9, 9, 0, 9, 9, 9, 9, 11, 11, 3, 9, 9, 9, 9, 9, 9, 1, 9, 9, 9, 9, 9, 9, 9, 9, 6, 9, 9, 9, 9]
def q_Z0 : List Nat := [0, 0, 4, 0, 30, 10, 0, 30, 10, 0, 30, 10, 0, 30, 10, 0, 24, 24, 24, 24, 24, 24, 24, 0, 28800, 24, 24, 24, 24, 200, 0, 600, 25, 256, 256, 6144, 256, 0, 6, 6, 6, 6, 4, 6, 16, 16, 0, 4, 4, 4, 4]
def q_R0 : List (List (Option Nat)) := [[some 1, some 15, some 23, some 30, some 37, some 46], [some 2], [some 3, some 6, some 9, some 12], [some 4, some 5], [], [], [some 7, some 8], [], [], [some 10, some 11], [], [], [some 13, some 14], [], [],
  [some 1, some 16, some 17, some 18, some 19, some 20, some 21, some 22], [], [], [], [], [], [], [], [some 1, some 15, some 24, some 25, some 26, some 27, some 28, some 29], [], [], [], [], [], [], [some 15, some 31, some 32, some 33, some 34, some 35, some 36], [], [], [], [], [], [],
  [some 1, some 38, some 39, some 40, some 41, some 42, some 43, some 44, some 45], [], [], [], [], [], [], [], [], [some 1, some 47, some 48, some 49, some 50], [], [], [], []]
def Sh (S : QS) : Prop := 51 ≤ S.2.1 ∧ (∀ j c, q_K0[j]? = some c → S.2.2.1 j = c) ∧ (∀ j z, q_Z0[j]? = some z → S.2.2.2.1 j = z) ∧ ∀ k l j r, q_R0[k]? = some l → l[j]? = some (some r) → S.2.2.2.2 k j = some r
theorem Sh.n {S : QS} (h : Sh S) (j : Nat) (hj : Nat.blt j 51 = true) : j < S.2.1 := Nat.lt_of_lt_of_le (of_decide_eq_true (by simpa [Nat.blt_eq] using hj)) h.1
theorem Sh.k {S : QS} (h : Sh S) (j c : Nat) (hj : q_K0[j]? = some c) : S.2.2.1 j = c := h.2.1 j c hj
theorem Sh.z {S : QS} (h : Sh S) (j z : Nat) (hj : q_Z0[j]? = some z) : S.2.2.2.1 j = z := h.2.2.1 j z hj
theorem Sh.r {S : QS} (h : Sh S) (k j r : Nat) (hk : (q_R0[k]?.bind (fun l => l[j]?)) = some (some r)) : S.2.2.2.2 k j = some r := by
  cases hl : q_R0[k]? with
  | none => rw [hl] at hk; cases hk
  | some l => rw [hl] at hk; exact h.2.2.2 k l j r hl hk
theorem q_t4 {P : Nat → Prop} (h0 : P 0) (h1 : P 1) (h2 : P 2) (h3 : P 3) {t : Nat} (h : t < 4) : P t := by
  rcases (show t = 0 ∨ t = 1 ∨ t = 2 ∨ t = 3 by omega) with rfl | rfl | rfl | rfl <;> assumption
theorem Sh.tn {S : QS} (h : Sh S) {t : Nat} (ht : t < 4) (a : Nat) (ha : Nat.ble a 5 = true) : a + 3 * t < S.2.1 := by
  have := h.1
  have := Nat.le_of_ble_eq_true ha
  omega
theorem Sh.tk {S : QS} (h : Sh S) {t : Nat} (ht : t < 4) : S.2.2.1 (3 + 3 * t) = 5 := q_t4 (P := fun t => S.2.2.1 (3 + 3 * t) = 5) (h.k 3 5 rfl) (h.k 6 5 rfl) (h.k 9 5 rfl) (h.k 12 5 rfl) ht
theorem Sh.tvk {S : QS} (h : Sh S) {t : Nat} (ht : t < 4) : S.2.2.1 (4 + 3 * t) = 9 := q_t4 (P := fun t => S.2.2.1 (4 + 3 * t) = 9) (h.k 4 9 rfl) (h.k 7 9 rfl) (h.k 10 9 rfl) (h.k 13 9 rfl) ht
theorem Sh.tvz {S : QS} (h : Sh S) {t : Nat} (ht : t < 4) : S.2.2.2.1 (4 + 3 * t) = 30 := q_t4 (P := fun t => S.2.2.2.1 (4 + 3 * t) = 30) (h.z 4 30 rfl) (h.z 7 30 rfl) (h.z 10 30 rfl) (h.z 13 30 rfl) ht
theorem Sh.tbk {S : QS} (h : Sh S) {t : Nat} (ht : t < 4) : S.2.2.1 (5 + 3 * t) = 11 := q_t4 (P := fun t => S.2.2.1 (5 + 3 * t) = 11) (h.k 5 11 rfl) (h.k 8 11 rfl) (h.k 11 11 rfl) (h.k 14 11 rfl) ht
theorem Sh.tbz {S : QS} (h : Sh S) {t : Nat} (ht : t < 4) : S.2.2.2.1 (5 + 3 * t) = 10 := q_t4 (P := fun t => S.2.2.2.1 (5 + 3 * t) = 10) (h.z 5 10 rfl) (h.z 8 10 rfl) (h.z 11 10 rfl) (h.z 14 10 rfl) ht
theorem Sh.tr {S : QS} (h : Sh S) {t : Nat} (ht : t < 4) : S.2.2.2.2 2 t = some (3 + 3 * t) := q_t4 (P := fun t => S.2.2.2.2 2 t = some (3 + 3 * t)) (h.r 2 0 3 rfl) (h.r 2 1 6 rfl) (h.r 2 2 9 rfl) (h.r 2 3 12 rfl) ht
theorem Sh.trv {S : QS} (h : Sh S) {t : Nat} (ht : t < 4) : S.2.2.2.2 (3 + 3 * t) 0 = some (4 + 3 * t) := q_t4 (P := fun t => S.2.2.2.2 (3 + 3 * t) 0 = some (4 + 3 * t)) (h.r 3 0 4 rfl) (h.r 6 0 7 rfl) (h.r 9 0 10 rfl) (h.r 12 0 13 rfl) ht
theorem Sh.trb {S : QS} (h : Sh S) {t : Nat} (ht : t < 4) : S.2.2.2.2 (3 + 3 * t) 1 = some (5 + 3 * t) := q_t4 (P := fun t => S.2.2.2.2 (3 + 3 * t) 1 = some (5 + 3 * t)) (h.r 3 1 5 rfl) (h.r 6 1 8 rfl) (h.r 9 1 11 rfl) (h.r 12 1 14 rfl) ht
/-- ends: an int, nothing, a table or null -/
def q_rt : Option Nat → Value
  | none => .null
  | some t => .ref (3 + 3 * t)
def q_Pi (S : QS) (P : Int32 → QI → QJ → Prop) : QP := fun o S2 I2 J2 => ∃ r : Int32, o = .inl (some (.int r)) ∧ S2 = S ∧ P r I2 J2
def q_Pv (S : QS) (P : QI → QJ → Prop) : QP := fun o S2 I2 J2 => o = .inl none ∧ S2 = S ∧ P I2 J2
def q_Pt (S : QS) (P : Option Nat → QI → QJ → Prop) : QP := fun o S2 I2 J2 => ∃ t : Option Nat, o = .inl (some (q_rt t)) ∧ S2 = S ∧ (∀ x, t = some x → x < 4) ∧ P t I2 J2
def q_Px (S : QS) (P : Int32 → QI → QJ → Prop) (PX : String → QI → QJ → Prop) : QP := fun o S2 I2 J2 => (∃ r : Int32, o = .inl (some (.int r)) ∧ S2 = S ∧ P r I2 J2) ∨ ∃ E : String, o = .inr E ∧ S2 = S ∧ PX E I2 J2
section QG
variable {X : QX} {M : MD} {d cT sT : Nat} {Q : QP} {pc : Nat} {lo : List (Nat × Value)} {st : List Value} {S : QS} {I : QI} {J : QJ} {k n : Nat}
theorem V_topi {x : Int32} (kk : ∀ y : Int32, y = x → V X M d cT sT Q pc lo (.int y :: st) S I J k n) : V X M d cT sT Q pc lo (.int x :: st) S I J k n := kk x rfl
theorem V_memI (kk : ∀ I2 : QI, I2 = I → V X M d cT sT Q pc lo st S I2 J k n) : V X M d cT sT Q pc lo st S I J k n := kk I rfl
theorem V_memJ (kk : ∀ J2 : QJ, J2 = J → V X M d cT sT Q pc lo st S I J2 k n) : V X M d cT sT Q pc lo st S I J k n := kk J rfl
theorem V_callVi {M2 : MD} {d2 q ci idx : Nat} {P : Int32 → QI → QJ → Prop} (As : List Value) (hd : decode M.2.2.1 pc = .ok (.invokevirtual idx, 3)) (ok : q_ok M2 As.length) (hh : M2.2.2.2.2.2 = []) (hlk : Cond.methodLink M.1 idx M2.2.1 ∈ q_TB) (hin : Cond.instanceMethod M2.2.1 ∈ q_TB) (hse : Cond.selects M2.2.1.cls M2.2.1 M2.2.1 ∈ q_TB)
    (hq : q < S.2.1) (hk : S.2.2.1 q = ci) (hci : ci < 8) (hcn : q_Cn ci = M2.2.1.cls) (hst : (st.map fun v => v.category).sum ≤ 8) (hdp : d2 + 1 ≤ d) (hc : k ≤ cT) (hs : n ≤ sT) (C2 : CX X M2 d2 0 0 (.ref q :: As) S I J (q_Pi S P))
    (kk : ∀ (r : Int32) (I2 : QI) (J2 : QJ), P r I2 J2 → V X M d cT sT Q (pc + 3) lo (.int r :: st) S I2 J2 k n) : V X M d cT sT Q pc lo (As.reverse ++ .ref q :: st) S I J k n := by
  refine V_callV hd ok hh hlk hin hse hq hk hci hcn hst hdp hc hs C2 ?_ ?_ ?_ ?_
  · rintro v S2 I2 J2 ⟨r, -, rfl, -⟩; exact ⟨rfl, rfl⟩
  · rintro E S2 I2 J2 ⟨r, h, -⟩; cases h
  · rintro v S2 I2 J2 ⟨r, h, rfl, hp⟩; cases h; exact kk r I2 J2 hp
  · rintro E S2 I2 J2 ⟨r, h, -⟩; cases h
theorem V_callVv {M2 : MD} {d2 q ci idx : Nat} {P : QI → QJ → Prop} (As : List Value) (hd : decode M.2.2.1 pc = .ok (.invokevirtual idx, 3)) (ok : q_ok M2 As.length) (hh : M2.2.2.2.2.2 = []) (hlk : Cond.methodLink M.1 idx M2.2.1 ∈ q_TB) (hin : Cond.instanceMethod M2.2.1 ∈ q_TB) (hse : Cond.selects M2.2.1.cls M2.2.1 M2.2.1 ∈ q_TB)
    (hq : q < S.2.1) (hk : S.2.2.1 q = ci) (hci : ci < 8) (hcn : q_Cn ci = M2.2.1.cls) (hst : (st.map fun v => v.category).sum ≤ 8) (hdp : d2 + 1 ≤ d) (hc : k ≤ cT) (hs : n ≤ sT) (C2 : CX X M2 d2 0 0 (.ref q :: As) S I J (q_Pv S P))
    (kk : ∀ (I2 : QI) (J2 : QJ), P I2 J2 → V X M d cT sT Q (pc + 3) lo st S I2 J2 k n) : V X M d cT sT Q pc lo (As.reverse ++ .ref q :: st) S I J k n := by
  refine V_callV hd ok hh hlk hin hse hq hk hci hcn hst hdp hc hs C2 ?_ ?_ ?_ ?_
  · rintro v S2 I2 J2 ⟨-, rfl, -⟩; exact ⟨rfl, rfl⟩
  · rintro E S2 I2 J2 ⟨h, -⟩; cases h
  · rintro v S2 I2 J2 ⟨h, rfl, hp⟩; cases h; exact kk I2 J2 hp
  · rintro E S2 I2 J2 ⟨h, -⟩; cases h
theorem V_callVt {M2 : MD} {d2 q ci idx : Nat} {P : Option Nat → QI → QJ → Prop} (As : List Value) (hd : decode M.2.2.1 pc = .ok (.invokevirtual idx, 3)) (ok : q_ok M2 As.length) (hh : M2.2.2.2.2.2 = []) (hlk : Cond.methodLink M.1 idx M2.2.1 ∈ q_TB) (hin : Cond.instanceMethod M2.2.1 ∈ q_TB) (hse : Cond.selects M2.2.1.cls M2.2.1 M2.2.1 ∈ q_TB)
    (hq : q < S.2.1) (hk : S.2.2.1 q = ci) (hci : ci < 8) (hcn : q_Cn ci = M2.2.1.cls) (hst : (st.map fun v => v.category).sum ≤ 8) (hdp : d2 + 1 ≤ d) (hc : k ≤ cT) (hs : n ≤ sT) (C2 : CX X M2 d2 0 0 (.ref q :: As) S I J (q_Pt S P))
    (kn : ∀ (I2 : QI) (J2 : QJ), P none I2 J2 → V X M d cT sT Q (pc + 3) lo (.null :: st) S I2 J2 k n)
    (ks : ∀ (t : Nat) (I2 : QI) (J2 : QJ), t < 4 → P (some t) I2 J2 → V X M d cT sT Q (pc + 3) lo (.ref (3 + 3 * t) :: st) S I2 J2 k n) : V X M d cT sT Q pc lo (As.reverse ++ .ref q :: st) S I J k n := by
  refine V_callV hd ok hh hlk hin hse hq hk hci hcn hst hdp hc hs C2 ?_ ?_ ?_ ?_
  · rintro v S2 I2 J2 ⟨t, -, rfl, -⟩; exact ⟨rfl, rfl⟩
  · rintro E S2 I2 J2 ⟨t, h, -⟩; cases h
  · rintro v S2 I2 J2 ⟨t, h, rfl, hl, hp⟩
    cases h
    cases t with
    | none => exact kn I2 J2 hp
    | some t => exact ks t I2 J2 (hl t rfl) hp
  · rintro E S2 I2 J2 ⟨t, h, -⟩; cases h
theorem V_callSi {M2 : MD} {d2 idx : Nat} {P : Int32 → QI → QJ → Prop} (As : List Value) (hd : decode M.2.2.1 pc = .ok (.invokestatic idx, 3)) (ok : q_ok M2 As.length) (hh : M2.2.2.2.2.2 = []) (hlk : Cond.methodLink M.1 idx M2.2.1 ∈ q_TB) (hstt : Cond.static M2.2.1 ∈ q_TB)
    (hst : (st.map fun v => v.category).sum ≤ 8) (hdp : d2 + 1 ≤ d) (hc : k ≤ cT) (hs : n ≤ sT) (C2 : CX X M2 d2 0 0 As S I J (q_Pi S P))
    (kk : ∀ (r : Int32) (I2 : QI) (J2 : QJ), P r I2 J2 → V X M d cT sT Q (pc + 3) lo (.int r :: st) S I2 J2 k n) : V X M d cT sT Q pc lo (As.reverse ++ st) S I J k n := by
  refine V_callS hd ok hh hlk hstt hst hdp hc hs C2 ?_ ?_ ?_ ?_
  · rintro v S2 I2 J2 ⟨r, -, rfl, -⟩; exact ⟨rfl, rfl⟩
  · rintro E S2 I2 J2 ⟨r, h, -⟩; cases h
  · rintro v S2 I2 J2 ⟨r, h, rfl, hp⟩; cases h; exact kk r I2 J2 hp
  · rintro E S2 I2 J2 ⟨r, h, -⟩; cases h
theorem V_callSv {M2 : MD} {d2 idx : Nat} {P : QI → QJ → Prop} (As : List Value) (hd : decode M.2.2.1 pc = .ok (.invokestatic idx, 3)) (ok : q_ok M2 As.length) (hh : M2.2.2.2.2.2 = []) (hlk : Cond.methodLink M.1 idx M2.2.1 ∈ q_TB) (hstt : Cond.static M2.2.1 ∈ q_TB)
    (hst : (st.map fun v => v.category).sum ≤ 8) (hdp : d2 + 1 ≤ d) (hc : k ≤ cT) (hs : n ≤ sT) (C2 : CX X M2 d2 0 0 As S I J (q_Pv S P))
    (kk : ∀ (I2 : QI) (J2 : QJ), P I2 J2 → V X M d cT sT Q (pc + 3) lo st S I2 J2 k n) : V X M d cT sT Q pc lo (As.reverse ++ st) S I J k n := by
  refine V_callS hd ok hh hlk hstt hst hdp hc hs C2 ?_ ?_ ?_ ?_
  · rintro v S2 I2 J2 ⟨-, rfl, -⟩; exact ⟨rfl, rfl⟩
  · rintro E S2 I2 J2 ⟨h, -⟩; cases h
  · rintro v S2 I2 J2 ⟨h, rfl, hp⟩; cases h; exact kk I2 J2 hp
  · rintro E S2 I2 J2 ⟨h, -⟩; cases h
theorem V_callSNi {M2 : MD} {d2 idx : Nat} {host : String} {P : Int32 → QI → QJ → Prop} (As : List Value) (hd : decode M.2.2.1 pc = .ok (.invokestatic idx, 3)) (ok : q_ok M2 As.length) (hh : M2.2.2.2.2.2 = []) (hlk : (M.1, idx, M2.2.1, host) ∈ q_nests) (hstt : Cond.static M2.2.1 ∈ q_TB)
    (hst : (st.map fun v => v.category).sum ≤ 8) (hdp : d2 + 1 ≤ d) (hc : k ≤ cT) (hs : n ≤ sT) (C2 : CX X M2 d2 0 0 As S I J (q_Pi S P))
    (kk : ∀ (r : Int32) (I2 : QI) (J2 : QJ), P r I2 J2 → V X M d cT sT Q (pc + 3) lo (.int r :: st) S I2 J2 k n) : V X M d cT sT Q pc lo (As.reverse ++ st) S I J k n := by
  refine V_callSN hd ok hh hlk hstt hst hdp hc hs C2 ?_ ?_ ?_
  · rintro E S2 I2 J2 ⟨r, h, -⟩; cases h
  · rintro v S2 I2 J2 ⟨r, -, rfl, -⟩; exact ⟨rfl, rfl⟩
  · rintro v S2 I2 J2 ⟨r, h, rfl, hp⟩; cases h; exact kk r I2 J2 hp
theorem V_aaldT {t : Nat} {i : Int32} (hS : Sh S) (hd : decode M.2.2.1 pc = .ok (.aaload, 1)) (hi : vp_in i 4) (ht : i.toNatClampNeg = t) (kk : t < 4 → V X M d cT sT Q (pc + 1) lo (.ref (3 + 3 * t) :: st) S I J k n) : V X M d cT sT Q pc lo (.int i :: .ref 2 :: st) S I J k n := by
  have h4 : t < 4 := by
    obtain ⟨j, hj, rfl⟩ := vp_in_of hi (by decide)
    rw [nI_clamp (by omega)] at ht
    omega
  exact V_aald hd (hS.n 2 rfl) (hS.k 2 12 rfl) (by rw [hS.z 2 4 rfl]; exact hi) (by rw [ht]; exact hS.tr h4) (kk h4)
theorem q_tsw {x : Int32} {c : Int} (h : ¬ x = Int32.ofInt c) (h1 : -2147483648 ≤ c) (h2 : c < 2147483648) : x.toInt ≠ c := fun z => h (by rw [← z, Int32.ofInt_toInt])
end QG
theorem q_nz {x : Int32} (h : x = 0 ∨ x = 1) : narrow .boolean (.int x) = .int x := by rcases h with rfl | rfl <;> decide +kernel
theorem q_fz {x : Int32} (h : x = 0 ∨ x = 1) : fits .boolean (.int x) = true := by rcases h with rfl | rfl <;> decide +kernel
theorem q_vz {x : Int32} (h : x = 0 ∨ x = 1) : vp_nar .boolean x = x := by rcases h with rfl | rfl <;> decide +kernel
section QG2
variable {X : QX} {M : MD} {d cT sT : Nat} {Q : QP} {pc : Nat} {lo : List (Nat × Value)} {st : List Value} {S : QS} {I : QI} {J : QJ} {k n : Nat}
theorem V_callVx {M2 : MD} {d2 q ci idx : Nat} {P : Int32 → QI → QJ → Prop} {PX : String → QI → QJ → Prop} (As : List Value) (hd : decode M.2.2.1 pc = .ok (.invokevirtual idx, 3)) (ok : q_ok M2 As.length) (hh : M2.2.2.2.2.2 = []) (hlk : Cond.methodLink M.1 idx M2.2.1 ∈ q_TB) (hin : Cond.instanceMethod M2.2.1 ∈ q_TB) (hse : Cond.selects M2.2.1.cls M2.2.1 M2.2.1 ∈ q_TB)
    (hq : q < S.2.1) (hk : S.2.2.1 q = ci) (hci : ci < 8) (hcn : q_Cn ci = M2.2.1.cls) (hst : (st.map fun v => v.category).sum ≤ 8) (hdp : d2 + 1 ≤ d) (hc : k + 1 ≤ cT) (hs : n + 6 ≤ sT) (C2 : CX X M2 d2 1 6 (.ref q :: As) S I J (q_Px S P PX))
    (kk : ∀ (r : Int32) (I2 : QI) (J2 : QJ), P r I2 J2 → V X M d cT sT Q (pc + 3) lo (.int r :: st) S I2 J2 (k + 1) (n + 6))
    (kx : ∀ (E : String) (I2 : QI) (J2 : QJ), PX E I2 J2 → VT X M d cT sT Q pc lo E S I2 J2 (k + 1) (n + 6)) : V X M d cT sT Q pc lo (As.reverse ++ .ref q :: st) S I J k n := by
  refine V_callV hd ok hh hlk hin hse hq hk hci hcn hst hdp hc hs C2 ?_ ?_ ?_ ?_
  · rintro v S2 I2 J2 (⟨r, -, rfl, -⟩ | ⟨E, h, -⟩)
    · exact ⟨rfl, rfl⟩
    · cases h
  · rintro E S2 I2 J2 (⟨r, h, -⟩ | ⟨E, -, rfl, -⟩)
    · cases h
    · rfl
  · rintro v S2 I2 J2 (⟨r, h, rfl, hp⟩ | ⟨E, h, -⟩)
    · cases h; exact kk r I2 J2 hp
    · cases h
  · rintro E S2 I2 J2 (⟨r, h, -⟩ | ⟨E2, h, rfl, hp⟩)
    · cases h
    · cases h; exact kx E I2 J2 hp
theorem V_callSXi {M2 : MD} {d2 idx : Nat} {P : Int32 → QI → QJ → Prop} (As : List Value) (hd : decode M.2.2.1 pc = .ok (.invokestatic idx, 3)) (ok : q_ok M2 As.length) (hh : M2.2.2.2.2.2 ≠ []) (hlk : Cond.methodLink M.1 idx M2.2.1 ∈ q_TB) (hstt : Cond.static M2.2.1 ∈ q_TB)
    (hst : (st.map fun v => v.category).sum ≤ 8) (hdp : d2 + 1 ≤ d) (hc : k + 1 ≤ cT) (hs : n + 6 ≤ sT) (C2 : CX X M2 d2 1 6 As S I J (q_Pi S P))
    (kk : ∀ (r : Int32) (I2 : QI) (J2 : QJ), P r I2 J2 → V X M d cT sT Q (pc + 3) lo (.int r :: st) S I2 J2 (k + 1) (n + 6)) : V X M d cT sT Q pc lo (As.reverse ++ st) S I J k n := by
  refine V_callSX hd ok hh hlk hstt hst hdp hc hs C2 ?_ ?_ ?_ ?_
  · rintro v S2 I2 J2 ⟨r, -, rfl, -⟩; exact ⟨rfl, rfl⟩
  · rintro E S2 I2 J2 ⟨r, h, -⟩; cases h
  · rintro v S2 I2 J2 ⟨r, h, rfl, hp⟩; cases h; exact kk r I2 J2 hp
  · rintro E S2 I2 J2 ⟨r, h, -⟩; cases h
end QG2
