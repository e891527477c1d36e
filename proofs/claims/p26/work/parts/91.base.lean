/-! pure: numbers, branches, loops -/
def UK : Int32 := -1000
def N1 : Int32 := -1
theorem l_uk : -nI 1000 = UK := by decide
theorem l_n1 : -nI 1 = N1 := by decide
theorem fa_lit (n : Nat) : (OfNat.ofNat n : Int32) = nI n := rfl
theorem l_n1T : N1.toInt = -1 := by decide
theorem l_n1e {n : Nat} (h : n < 2 ^ 31) : (nI n = N1) = False := by
  refine eq_false fun e => ?_
  have e2 := congrArg Int32.toInt e
  rw [nI_toInt h, l_n1T] at e2
  omega
theorem l_n1e2 {n : Nat} (h : n < 2 ^ 31) : (N1 = nI n) = False := by
  refine eq_false fun e => ?_
  rw [← l_n1e h]
  exact e.symm
theorem l_n1l {n : Nat} (h : n < 2 ^ 31) : (N1 < nI n) = True := by
  refine eq_true ?_
  rw [Int32.lt_iff_toInt_lt, nI_toInt h, l_n1T]
  omega
theorem l_n1l2 {n : Nat} (h : n < 2 ^ 31) : (nI n ≤ N1) = False := by
  refine eq_false fun e => ?_
  rw [Int32.le_iff_toInt_le, nI_toInt h, l_n1T] at e
  omega
theorem l_n1l3 {n : Nat} (h : n < 2 ^ 31) : (nI n < N1) = False := by
  refine eq_false fun e => ?_
  rw [Int32.lt_iff_toInt_lt, nI_toInt h, l_n1T] at e
  omega
theorem s1_ltx {a : Nat} {x : Int32} (ha : a < 2 ^ 30) : (nI a - nI 1 < x) = (nI a ≤ x) := by
  rw [Int32.lt_iff_toInt_lt, Int32.le_iff_toInt_le, pk_sub_toInt ha (by omega), nI_toInt (by omega)]
  refine propext ⟨fun h => ?_, fun h => ?_⟩ <;> omega
theorem d_leF {a b : Nat} (h : b < a) : (a ≤ b) = False := eq_false (by omega)
theorem d_leT {a b : Nat} (h : a ≤ b) : (a ≤ b) = True := eq_true h
theorem d_ltF {a b : Nat} (h : b ≤ a) : (a < b) = False := eq_false (by omega)
theorem d_ltT {a b : Nat} (h : a < b) : (a < b) = True := eq_true h
theorem d_eqF {a b : Nat} (h : a < b ∨ b < a) : (a = b) = False := eq_false (by omega)
theorem d_eqT {a b : Nat} (h : a = b) : (a = b) = True := eq_true h
theorem b_t {C A B : Prop} (hC : C) (a : A) : (C → A) ∧ (¬ C → B) := ⟨fun _ => a, fun h => absurd hC h⟩
theorem b_f {C A B : Prop} (hC : ¬ C) (b : B) : (C → A) ∧ (¬ C → B) := ⟨fun h => absurd h hC, fun _ => b⟩
theorem b_nt {C A B : Prop} (hC : C) (a : A) : (¬ C → B) ∧ (C → A) := ⟨fun h => absurd hC h, fun _ => a⟩
theorem b_nf {C A B : Prop} (hC : ¬ C) (b : B) : (¬ C → B) ∧ (C → A) := ⟨fun _ => b, fun h => absurd h hC⟩
theorem b_some {A : Prop} {P : Nat → Prop} {t : Nat} (h : P t) : (some t = none → A) ∧ ∀ u, u < 4 → some t = some u → P u := ⟨fun e => (by cases e), fun u _ e => by cases e; exact h⟩
theorem b_none {A : Prop} {P : Nat → Prop} (h : A) : ((none : Option Nat) = none → A) ∧ ∀ u, u < 4 → none = some u → P u := ⟨fun _ => h, fun u _ e => by cases e⟩
/-- a loop that counts up -/
theorem lp {σ : Type} (W : Nat → Nat → σ → Prop) (Inv : Nat → σ → Prop) (N : Nat) (hx : ∀ f s, Inv N s → W (f + 1) N s) (hs : ∀ f i s, i < N → Inv i s → (∀ s', Inv (i + 1) s' → W f (i + 1) s') → W (f + 1) i s) : ∀ (i : Nat) (s : σ), i ≤ N → Inv i s → ∃ f, W f i s := by
  have key : ∀ d i s, i + d = N → Inv i s → W (d + 1) i s := by
    intro d
    induction d with
    | zero =>
      intro i s hi h
      have : i = N := by omega
      subst this
      exact hx 0 s h
    | succ d ih =>
      intro i s hi h
      exact hs (d + 1) i s (by omega) h (fun s' h' => ih (i + 1) s' (by omega) h')
  intro i s hi h
  exact ⟨N - i + 1, key (N - i) i s (by omega) h⟩
/-- an int: out of range, or a number below -/
theorem ixc (x : Int32) (n : Nat) (hn : n < 2 ^ 31) : (∃ j, j < n ∧ x = nI j) ∨ (x < 0 ∨ nI n ≤ x) := by
  rcases pk_ix x hn with h | h | h
  · exact Or.inr (Or.inl h)
  · exact Or.inr (Or.inr h)
  · exact Or.inl h
def bI (b : Bool) : Int32 := if b then 1 else 0
theorem bI_t : bI true = nI 1 := rfl
theorem bI_f : bI false = nI 0 := rfl
theorem bI_01 (b : Bool) : bI b = nI 0 ∨ bI b = nI 1 := by cases b <;> simp [bI_t, bI_f]
/-- how many -/
def ct (p : Nat → Bool) : Nat → Nat
  | 0 => 0
  | n + 1 => ct p n + (if p n then 1 else 0)
theorem ct_s (p : Nat → Bool) (n : Nat) : ct p (n + 1) = ct p n + (if p n then 1 else 0) := rfl
theorem ct_le (p : Nat → Bool) : ∀ n, ct p n ≤ n
  | 0 => Nat.le_refl 0
  | n + 1 => by
    have := ct_le p n
    rw [ct_s]
    split <;> omega
theorem ct_cong {p q : Nat → Bool} : ∀ {n : Nat}, (∀ k, k < n → p k = q k) → ct p n = ct q n
  | 0, _ => rfl
  | n + 1, h => by rw [ct_s, ct_s, ct_cong (fun k hk => h k (by omega)), h n (by omega)]
theorem ct_0 {p : Nat → Bool} : ∀ {n : Nat}, ct p n = 0 ↔ ∀ k, k < n → p k = false
  | 0 => ⟨fun _ k hk => absurd hk (Nat.not_lt_zero k), fun _ => rfl⟩
  | n + 1 => by
    rw [ct_s]
    constructor
    · intro h k hk
      by_cases e : k = n
      · subst e
        cases hp : p k
        · rfl
        · rw [hp] at h; simp at h
      · exact (ct_0 (n := n)).mp (Nat.eq_zero_of_add_eq_zero_right h) k (by omega)
    · intro h
      rw [ct_0.mpr (fun k hk => h k (by omega)), h n (by omega)]
      rfl
/-- sums -/
def sm (f : Nat → Nat) : Nat → Nat
  | 0 => 0
  | n + 1 => sm f n + f n
theorem sm_s (f : Nat → Nat) (n : Nat) : sm f (n + 1) = sm f n + f n := rfl
theorem sm_cong {f g : Nat → Nat} : ∀ {n : Nat}, (∀ k, k < n → f k = g k) → sm f n = sm g n
  | 0, _ => rfl
  | n + 1, h => by rw [sm_s, sm_s, sm_cong (fun k hk => h k (by omega)), h n (by omega)]
theorem sm_le {f : Nat → Nat} {c : Nat} : ∀ {n : Nat}, (∀ k, k < n → f k ≤ c) → sm f n ≤ n * c
  | 0, _ => Nat.zero_le _
  | n + 1, h => by
    rw [sm_s, Nat.succ_mul]
    exact Nat.add_le_add (sm_le fun k hk => h k (by omega)) (h n (by omega))
theorem ne_u2 {α : Type} {f : Nat → Nat → α} {a i b j : Nat} {x : α} (h : b ≠ a ∨ j ≠ i) : q_u2 f a i x b j = f b j := if_neg (fun e => h.elim (fun z => z e.1) (fun z => z e.2))
theorem nr_u2 {α : Type} {f : Nat → Nat → α} {a i b : Nat} {x : α} (h : b ≠ a) : q_u2 f a i x b = f b := q_u2_b f i x h
/-! tables: how many, how wide, how many rows, values -/
abbrev QT : Type := Nat × (Nat → Nat) × (Nat → Nat) × (Nat → Nat → Nat → Int32)
def Tc (I : QI) (T : QT) : Prop := I 1 1 = nI T.1 ∧ ∀ t, t < 4 → I (3 + 3 * t) 2 = nI (T.2.1 t) ∧ I (3 + 3 * t) 3 = nI (T.2.2.1 t) ∧ ∀ r c, r < 10 → c < 3 → I (4 + 3 * t) (3 * r + c) = T.2.2.2 t r c
def Tm (I : QI) (T : QT) : Prop := I 51 1 = nI T.1 ∧ ∀ t, t < 4 → I 52 t = nI (T.2.1 t) ∧ I 53 t = nI (T.2.2.1 t) ∧ ∀ r c, r < 10 → c < 3 → I 54 (30 * t + 3 * r + c) = T.2.2.2 t r c
def Tw (T : QT) : Prop := T.1 ≤ 4 ∧ ∀ t, t < 4 → T.2.1 t ≤ 3 ∧ T.2.2.1 t ≤ 10 ∧ (t < T.1 → 1 ≤ T.2.1 t) ∧ (T.1 ≤ t → T.2.2.1 t = 0)
theorem p_value {I : QI} {T : QT} (hT : Tc I T) (hw : Tw T) {t r c : Nat} (ht : t < 4) (hr : r < T.2.2.1 t) (hc : c < T.2.1 t) {post : Int32 → Prop} (h : post (T.2.2.2 t r c)) : wX5_value t (nI r) (nI c) I post := by
  obtain ⟨h1, h2, h3⟩ := hT.2 t ht
  obtain ⟨w1, w2, w3, w4⟩ := hw.2 t ht
  unfold wX5_value
  simp (disch := omega) only [h1, h2, fa_lit, nI_ltI, nI_leI, nI_eq, nI_add, pk_mul, nI_clamp, vp_in_nI, l_uk, l_n1, l_n1e, l_n1e2, l_n1l, l_n1l2, l_n1l3, not_true_eq_false, not_false_eq_true, true_implies, false_implies, true_and, and_true, and_self, forall_eq, bI_t, bI_f, Bool.false_eq_true, or_true, true_or, or_false, false_or, s1_ltx,  d_leF, d_leT, d_ltF, d_ltT, d_eqF, d_eqT]
  have e : r * 3 + c = 3 * r + c := by omega
  rw [e, h3 r c (by omega) (by omega)]
  exact h
