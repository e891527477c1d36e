/-! pure: the relation of the class with what it holds; what the calls need -/
abbrev Zs : Type := QT × List Nd × Nat × List Q4 × List Q4
def Rc (I : QI) (Z : Zs) (i : Nat) : Prop := Tc I Z.1 ∧ Pc I Z.2.1 ∧ (∃ ch, ch ≤ i + 1 ∧ Ca I Z.1 Z.2.1 ch) ∧ I 0 6 = nI Z.2.2.1 ∧ Kc I Z.2.2.2.1 ∧ Vc I Z.2.2.2.2
def Rw (Z : Zs) : Prop := Tw Z.1 ∧ Pw Z.1 Z.2.1 ∧ Pd Z.2.1 ∧ Z.2.2.1 ≤ 100000 ∧ Kw Z.1 Z.2.2.2.1 ∧ Vw Z.1 Z.2.2.2.2
theorem Tc.cg {I I2 : QI} {T : QT} (h : Tc I T) (e : ∀ b, b < 15 → I2 b = I b) : Tc I2 T := by
  refine ⟨by rw [e 1 (by omega)]; exact h.1, fun t ht => ?_⟩
  rw [e (3 + 3 * t) (by omega), e (4 + 3 * t) (by omega)]
  exact h.2 t ht
theorem Pc.cg {I I2 : QI} {P : List Nd} (h : Pc I P) (e : ∀ b, 15 ≤ b → b < 23 → I2 b = I b) : Pc I2 P := by
  refine ⟨by rw [e 15 (by omega) (by omega)]; exact h.1, fun n hn => ?_⟩
  rw [e 16 (by omega) (by omega), e 17 (by omega) (by omega), e 18 (by omega) (by omega), e 19 (by omega) (by omega), e 20 (by omega) (by omega), e 21 (by omega) (by omega), e 22 (by omega) (by omega)]
  exact h.2 n hn
theorem Kc.cg {I I2 : QI} {K : List Q4} (h : Kc I K) (e : ∀ b, 37 ≤ b → b < 42 → I2 b = I b) : Kc I2 K := by
  refine ⟨by rw [e 37 (by omega) (by omega)]; exact h.1, fun n hn => ?_⟩
  rw [e 38 (by omega) (by omega), e 39 (by omega) (by omega), e 40 (by omega) (by omega), e 41 (by omega) (by omega)]
  exact h.2 n hn
theorem Vc.cg {I I2 : QI} {V : List Q4} (h : Vc I V) (e : ∀ b, 46 ≤ b → b < 51 → I2 b = I b) : Vc I2 V := by
  refine ⟨by rw [e 46 (by omega) (by omega)]; exact h.1, fun n hn => ?_⟩
  rw [e 47 (by omega) (by omega), e 48 (by omega) (by omega), e 49 (by omega) (by omega), e 50 (by omega) (by omega)]
  exact h.2 n hn
theorem Ca.cg {I I2 : QI} {T : QT} {P : List Nd} {ch : Nat} (h : Ca I T P ch) (hw : Pw T P) (h1 : I2 1 2 = I 1 2) (e : ∀ b, 24 ≤ b → b ≤ 27 → I2 b = I b) : Ca I2 T P ch := by
  refine ⟨h1.trans h.1, fun m hm => ?_⟩
  rw [e 27 (by omega) (by omega)]
  obtain ⟨a, b⟩ := h.2 m hm
  refine ⟨a, fun z => ?_⟩
  obtain ⟨c, d⟩ := b z
  exact ⟨c, OKc_cg d (hw.2 m c).1.2.2.2.2.2.2 (fun j _ _ => by rw [e 24 (by omega) (by omega)]) (by rw [e 25 (by omega) (by omega)]) (by rw [e 26 (by omega) (by omega)])⟩
theorem Rc.cg {I I2 : QI} {Z : Zs} {i : Nat} (h : Rc I Z i) (hw : Rw Z) (e : ∀ b, b < 51 → I2 b = I b) : Rc I2 Z i := by
  obtain ⟨a, b, ⟨ch, c0, c⟩, d, f, g⟩ := h
  exact ⟨a.cg (fun b hb => e b (by omega)), b.cg (fun b _ hb => e b (by omega)), ⟨ch, c0, c.cg hw.2.1 (by rw [e 1 (by omega)]) (fun b _ hb => e b (by omega))⟩, by rw [e 0 (by omega)]; exact d, f.cg (fun b _ hb => e b (by omega)), g.cg (fun b _ hb => e b (by omega))⟩
theorem Rc.up {I : QI} {Z : Zs} {i : Nat} (h : Rc I Z i) : Rc I Z (i + 1) := by
  obtain ⟨a, b, ⟨ch, c0, c⟩, d⟩ := h
  exact ⟨a, b, ⟨ch, by omega, c⟩, d⟩
theorem ev_x {T : QT} {P P2 : List Nd} (hw : Pw T P) (hx : XP P P2) : ∀ (f n : Nat), n < P.length → ev T P2 f n = ev T P f n
  | 0, n, _ => rfl
  | f + 1, n, hn => by
    obtain ⟨ha, hb⟩ := (hw.2 n hn).ab
    have eB : nd P2 ((nd P n).2.2.1 - 1) = nd P ((nd P n).2.2.1 - 1) := hx.g (by
      by_cases e : (nd P n).2.2.1 = 0
      · omega
      · have := hb e; omega)
    have e1 : (if (nd P n).1 = 0 then some [] else ev T P2 f (nd P n).2.1) = (if (nd P n).1 = 0 then some [] else ev T P f (nd P n).2.1) := by
      by_cases e : (nd P n).1 = 0
      · rw [if_pos e, if_pos e]
      · rw [if_neg e, if_neg e]
        have := ha e
        exact ev_x hw hx f _ (by omega)
    have e2 : (if (nd P n).2.2.1 = 0 then some [] else ev T P2 f ((nd P n).2.2.1 - 1)) = (if (nd P n).2.2.1 = 0 then some [] else ev T P f ((nd P n).2.2.1 - 1)) := by
      by_cases e : (nd P n).2.2.1 = 0
      · rw [if_pos e, if_pos e]
      · rw [if_neg e, if_neg e]
        have := hb e
        exact ev_x hw hx f _ (by omega)
    rw [ev, ev, hx.g hn, eB, e1, e2]
theorem EV_x {T : QT} {P P2 : List Nd} (hw : Pw T P) (hx : XP P P2) {n : Nat} (hn : n < P.length) : EV T P2 n = EV T P n := ev_x hw hx _ n hn
theorem st_x {T : QT} {P P2 : List Nd} (hw : Pw T P) (hx : XP P P2) : ∀ (f n : Nat), n < P.length → st T P2 f n = st T P f n
  | 0, n, _ => rfl
  | f + 1, n, hn => by
    obtain ⟨ha, hb⟩ := (hw.2 n hn).ab
    have e1 : (if (nd P n).1 = 0 then 0 else st T P2 f (nd P n).2.1) = (if (nd P n).1 = 0 then 0 else st T P f (nd P n).2.1) := by
      by_cases e : (nd P n).1 = 0
      · rw [if_pos e, if_pos e]
      · rw [if_neg e, if_neg e]
        have := ha e
        exact st_x hw hx f _ (by omega)
    have e2 : (if (nd P n).2.2.1 = 0 then 0 else st T P2 f ((nd P n).2.2.1 - 1)) = (if (nd P n).2.2.1 = 0 then 0 else st T P f ((nd P n).2.2.1 - 1)) := by
      by_cases e : (nd P n).2.2.1 = 0
      · rw [if_pos e, if_pos e]
      · rw [if_neg e, if_neg e]
        have := hb e
        exact st_x hw hx f _ (by omega)
    rw [st, st, hx.g hn, EV_x hw hx hn, e1, e2]
theorem OKc_x {I : QI} {T : QT} {P P2 : List Nd} (hw : Pw T P) (hx : XP P P2) {n : Nat} (hn : n < P.length) (h : OKc I T P n) : OKc I T P2 n := by
  have e1 := EV_x (n := n) hw hx hn
  have e2 : ST T P2 n = ST T P n := st_x hw hx _ n hn
  cases e : EV T P n with
  | none => exact OKc.mn (e1.trans e) (h.n e)
  | some L => exact OKc.ms (e1.trans e) (by rw [hx.g hn]; exact (h.s e).1) (by rw [e2]; exact (h.s e).2)
theorem Ca_x {I : QI} {T : QT} {P P2 : List Nd} {ch : Nat} (hw : Pw T P) (hx : XP P P2) (h : Ca I T P ch) : Ca I T P2 ch := by
  refine ⟨h.1, fun m hm => ?_⟩
  obtain ⟨a, b⟩ := h.2 m hm
  refine ⟨a, fun z => ?_⟩
  obtain ⟨c, d⟩ := b z
  exact ⟨Nat.lt_of_lt_of_le c hx.le, OKc_x hw hx c d⟩
/-- what two nodes' rows compare to -/
def sameR (T : QT) (P : List Nd) (n m : Nat) : Bool := match EV T P n, EV T P m with
  | some A, some B => decide ((nd P n).2.2.2.2.2.2 = (nd P m).2.2.2.2.2.2 ∧ A.length = B.length) && (er A B).isSome
  | none, _ => false
  | some _, none => false
theorem psb_t {T : QT} {P : List Nd} {m bu : Nat} (h : psb T P m bu = true) : (∃ L, EV T P m = some L) ∧ ST T P m ≤ bu := by
  unfold psb at h
  cases e : EV T P m with
  | none => rw [e] at h; cases h
  | some L =>
    rw [e] at h
    exact ⟨⟨L, rfl⟩, of_decide_eq_true h⟩
theorem pw_4 {t : Nat} (h : t ≤ 4) : 2 ^ t ≤ 16 := (Nat.pow_le_pow_right (by decide) h : 2 ^ t ≤ 2 ^ 4)
theorem ixs (x : Int32) {t : Nat} (h : t ≤ 4) : (∃ s, 1 ≤ s ∧ s < 2 ^ t ∧ x = nI s) ∨ (x ≤ nI 0 ∨ nI (2 ^ t) ≤ x) := by
  have h16 := pw_4 h
  rcases ixc x (2 ^ t) (by omega) with ⟨j, hj, e⟩ | z | z
  · by_cases e0 : j = 0
    · subst e0
      exact Or.inr (Or.inl (by rw [e]; exact Int32.le_refl _))
    · exact Or.inl ⟨j, by omega, hj, e⟩
  · exact Or.inr (Or.inl (Int32.le_of_lt z))
  · exact Or.inr (Or.inr z)
theorem nI_nn {c : Nat} (h : c < 2 ^ 30) : ¬ nI c < 0 := by
  show ¬ nI c < nI 0
  simp (disch := omega) only [fa_lit, nI_ltI, nI_leI, nI_eq, nI_add, pk_mul, nI_clamp, vp_in_nI, l_uk, l_n1, l_n1e, l_n1e2, l_n1l, l_n1l2, l_n1l3, not_true_eq_false, not_false_eq_true, true_implies, false_implies, true_and, and_true, and_self, forall_eq, bI_t, bI_f, Bool.false_eq_true, or_true, true_or, or_false, false_or, s1_ltx, if_true, if_false, Nat.add_zero, Nat.zero_add,  d_leF, d_leT, d_ltF, d_ltT, d_eqF, d_eqT]
def oft (T : QT) (q : Q4) (r s : Nat) : Nat := if mts T q r s then ct (al T q.1 r) (T.2.2.1 q.1) * ct (al T q.2.1 s) (T.2.2.1 q.2.1) else 0
section LC
variable {i k n s : Nat} {Z : Zs} {S : QS} {I : QI} {J : QJ} {T : QT}
theorem Rc.ps {I I2 : QI} {Z : Zs} {i ch : Nat} (h : Rc I Z i) (hF : ∀ b, b < 24 ∨ 30 ≤ b → I2 b = I b) (hC : Ca I2 Z.1 Z.2.1 ch) (hch : ch ≤ i + 1) : Rc I2 Z i := by
  obtain ⟨a, b, -, d, f, g⟩ := h
  exact ⟨a.cg (fun b hb => hF b (by omega)), b.cg (fun b _ hb => hF b (by omega)), ⟨ch, hch, hC⟩, by rw [hF 0 (by omega)]; exact d, f.cg (fun b hb _ => hF b (by omega)), g.cg (fun b hb _ => hF b (by omega))⟩
theorem p_col {P : List Nd} {T : QT} {m c : Nat} {Q : Int32 → Prop} (hP : Pc I P) (hw : Pw T P) (hm : m < P.length) (hc : c < (nd P m).2.2.2.2.2.2) (h : Q 1) : wX2_hasColumn (nI m) (nI c) I Q := by
  have w6 := (hw.2 m hm).1.2.2.2.2.2.2
  refine ⟨fun z => absurd z (nI_nn (by omega)), fun _ => p_widthOf hP hw hm ⟨fun z => ?_, fun _ => h⟩⟩
  rw [nI_leI (by omega) (by omega)] at z
  omega
theorem p_col_f {P : List Nd} {T : QT} {m : Nat} {x : Int32} {Q : Int32 → Prop} (hP : Pc I P) (hw : Pw T P) (hm : m < P.length) (hx : x < 0 ∨ nI (nd P m).2.2.2.2.2.2 ≤ x) (h : Q 0) : wX2_hasColumn (nI m) x I Q := ⟨fun _ => h, fun y => p_widthOf hP hw hm ⟨fun _ => h, fun y2 => absurd hx (not_or.2 ⟨y, y2⟩)⟩⟩
theorem p_col_f1 {P : List Nd} {y x : Int32} {Q : Int32 → Prop} (hP : Pc I P) (hy : y < 0 ∨ nI P.length ≤ y) (h : Q 0) : wX2_hasColumn y x I Q := ⟨fun _ => h, fun z => p_widthOf_f hP hy ⟨fun _ => h, fun z2 => absurd (Int32.not_lt.1 z) z2⟩⟩
theorem p_hasSet {post : Int32 → Prop} (hT : Tc I T) (hwT : Tw T) (h1 : 1 ≤ s) (h2 : s < 2 ^ T.1) (h : post (nI 1)) : wX4_hasSet (nI s) I post := by
  have hsh := f_shl T.1 hwT.1
  have hp16 := f_pow T.1 hwT.1
  generalize 2 ^ T.1 = N at *
  unfold wX4_hasSet
  simp (disch := omega) only [hT.1, hsh, fa_lit, nI_ltI, nI_leI, nI_eq, nI_add, pk_mul, nI_clamp, vp_in_nI, l_uk, l_n1, l_n1e, l_n1e2, l_n1l, l_n1l2, l_n1l3, not_true_eq_false, not_false_eq_true, true_implies, false_implies, true_and, and_true, and_self, forall_eq, bI_t, bI_f, Bool.false_eq_true, or_true, true_or, or_false, false_or, s1_ltx, if_true, if_false, Nat.add_zero, Nat.zero_add,  d_leF, d_leT, d_ltF, d_ltT, d_eqF, d_eqT]
  exact h
theorem p_hasSet_f {x : Int32} {post : Int32 → Prop} (hT : Tc I T) (hwT : Tw T) (hx : x ≤ nI 0 ∨ nI (2 ^ T.1) ≤ x) (h : post (nI 0)) : wX4_hasSet x I post := by
  have hsh := f_shl T.1 hwT.1
  have hp16 := f_pow T.1 hwT.1
  generalize 2 ^ T.1 = N at *
  unfold wX4_hasSet
  simp (disch := omega) only [hT.1, hsh, fa_lit, nI_ltI, nI_leI, nI_eq, nI_add, pk_mul, nI_clamp, vp_in_nI, l_uk, l_n1, l_n1e, l_n1e2, l_n1l, l_n1l2, l_n1l3, not_true_eq_false, not_false_eq_true, true_implies, false_implies, true_and, and_true, and_self, forall_eq, bI_t, bI_f, Bool.false_eq_true, or_true, true_or, or_false, false_or, s1_ltx, if_true, if_false, Nat.add_zero, Nat.zero_add,  d_leF, d_leT, d_ltF, d_ltT, d_eqF, d_eqT]
  exact ⟨fun _ => h, fun e => ⟨fun _ => h, fun e2 => absurd hx (not_or.mpr ⟨e, e2⟩)⟩⟩
theorem Rc.pl {I I2 : QI} {Z : Zs} {i : Nat} (h : Rc I Z i) (hw : Rw Z) (e : ∀ b, b < 42 ∨ 46 ≤ b → I2 b = I b) : Rc I2 Z i := by
  obtain ⟨a, b, ⟨ch, c0, c⟩, d, f, g⟩ := h
  exact ⟨a.cg (fun b hb => e b (by omega)), b.cg (fun b _ hb => e b (by omega)), ⟨ch, c0, c.cg hw.2.1 (by rw [e 1 (by omega)]) (fun b _ hb => e b (by omega))⟩, by rw [e 0 (by omega)]; exact d, f.cg (fun b _ hb => e b (by omega)), g.cg (fun b hb _ => e b (by omega))⟩
theorem p_hasRow {T : QT} {t r : Nat} {Q : Int32 → Prop} (hT : Tc I T) (hw : Tw T) (ht : t < 4) (hr : r < T.2.2.1 t) (h : Q 1) : wX5_hasRow t (nI r) I Q := by
  have := (hw.2 t ht).2.1
  unfold wX5_hasRow
  simp (disch := omega) only [(hT.t ht).2, fa_lit, nI_ltI, nI_leI, nI_eq, nI_add, pk_mul, nI_clamp, vp_in_nI, l_uk, l_n1, l_n1e, l_n1e2, l_n1l, l_n1l2, l_n1l3, not_true_eq_false, not_false_eq_true, true_implies, false_implies, true_and, and_true, and_self, forall_eq, bI_t, bI_f, Bool.false_eq_true, or_true, true_or, or_false, false_or, s1_ltx, if_true, if_false, Nat.add_zero, Nat.zero_add,  d_leF, d_leT, d_ltF, d_ltT, d_eqF, d_eqT]
  exact h
theorem p_hasRow_f {T : QT} {t : Nat} {x : Int32} {Q : Int32 → Prop} (hT : Tc I T) (ht : t < 4) (hx : x < 0 ∨ nI (T.2.2.1 t) ≤ x) (h : Q 0) : wX5_hasRow t x I Q := by
  unfold wX5_hasRow
  rw [(hT.t ht).2]
  exact ⟨fun _ => h, fun e => ⟨fun _ => h, fun e2 => absurd hx (not_or.mpr ⟨e, e2⟩)⟩⟩
theorem Rc.ws {I I2 : QI} {Z : Zs} {i t : Nat} (h : Rc I Z i) (hw : Rw Z) (ht : t < 4) (e : ∀ b, b ≠ 5 + 3 * t → I2 b = I b) : Rc I2 Z i := by
  obtain ⟨a, b, ⟨ch, c0, c⟩, d, f, g⟩ := h
  exact ⟨Tc_r a e, b.cg (fun b h1 hb => e b (by omega)), ⟨ch, c0, c.cg hw.2.1 (by rw [e 1 (by omega)]) (fun b h1 hb => e b (by omega))⟩, by rw [e 0 (by omega)]; exact d, f.cg (fun b h1 hb => e b (by omega)), g.cg (fun b h1 _ => e b (by omega))⟩
end LC
