/-! the words that every method may use; a method as a tuple; values, cells and heaps by positions -/
def q_TB : List Cond := lw_tbl.filter goodWord
theorem q_tb {w : Cond} (i : Nat) (h : lw_tbl[i]? = some w) (hg : goodWord w = true) : w ∈ q_TB := List.mem_filter.mpr ⟨List.mem_of_getElem? h, hg⟩
theorem q_tb_good : ∀ w ∈ q_TB, goodWord w = true := fun w h => (List.mem_filter.mp h).2
/-- own class, name, code, locals, what it returns, its table -/
abbrev MD : Type := String × MethodName × ByteArray × Nat × Option FieldType × List (Nat × Nat × Nat × Nat)
def q_wd (M : MD) : Cond := match M.2.2.2.2.2 with
  | [] => .code M.2.1 M.2.2.1 M.2.2.2.1 M.2.2.2.2.1
  | h :: t => .codeWith M.2.1 M.2.2.1 M.2.2.2.1 M.2.2.2.2.1 (h :: t)
def q_ws (M : MD) : List Cond := q_wd M :: q_TB
/-- the classes' numbers: of the objects, of int, long, boolean and table arrays -/
abbrev QC : Type := (Nat → ClassId) × (Nat → Nat → Nat) × ClassId × ClassId × ClassId × ClassId
/-- addresses, how many, kinds, sizes, references -/
abbrev QS : Type := (Nat → Nat) × Nat × (Nat → Nat) × (Nat → Nat) × (Nat → Nat → Option Nat)
abbrev QI : Type := Nat → Nat → Int32
abbrev QJ : Type := Nat → Nat → Int64
/-- classes' numbers; the script: address, length, contents; where the new cells begin -/
abbrev QX : Type := QC × (Nat × Nat × (Nat → Int32)) × Nat
def q_cv (ad : Nat → Nat) : Value → Value
  | .ref k => .ref (ad k)
  | v => v
def q_ty (ci : Nat) : Nat → FieldType := match ci with
  | 0 => tyX0
  | 1 => tyX1
  | 2 => tyX2
  | 3 => tyX3
  | 4 => tyX4
  | 5 => tyX5
  | 6 => tyX6
  | 7 => tyX7
  | _ => tyX8
def q_ir : FieldType → Bool
  | .object _ => true
  | .array _ => true
  | _ => false
def q_nf (ci : Nat) : Nat := ((vwCl[ci]?).map (fun r => r.2.2)).getD 0
def q_fv (ad : Nat → Nat) (R : Nat → Nat → Option Nat) (I : QI) (isr : Bool) (k j : Nat) : Value := match isr with
  | true => va_rf ((R k j).map ad)
  | false => .int (I k j)
def q_cell (C : QC) (S : QS) (I : QI) (J : QJ) (k : Nat) : va_E :=
  if S.2.2.1 k < 8 then .inr (S.2.2.1 k, (List.range (q_nf (S.2.2.1 k))).map (fun j => q_fv S.1 S.2.2.2.2 I (q_ir (q_ty (S.2.2.1 k) j)) k j))
  else if S.2.2.1 k = 9 then .inl (C.2.2.1, S.2.2.2.1 k, .inl (I k))
  else if S.2.2.1 k = 10 then .inl (C.2.2.2.1, S.2.2.2.1 k, .inr (.inl (J k)))
  else if S.2.2.1 k = 11 then .inl (C.2.2.2.2.1, S.2.2.2.1 k, .inl (I k))
  else .inl (C.2.2.2.2.2, S.2.2.2.1 k, .inr (.inr (.inr (.inr (fun j => (S.2.2.2.2 k j).map S.1)))))
def q_lay (C : QC) (S : QS) (I : QI) (J : QJ) : va_W := (List.range S.2.1).map (fun k => (S.1 k, q_cell C S I J k))
def q_u2 {α : Type} (f : Nat → Nat → α) (a i : Nat) (x : α) : Nat → Nat → α := fun b j => if b = a ∧ j = i then x else f b j
theorem q_u2_s {α : Type} (f : Nat → Nat → α) (a i : Nat) (x : α) : q_u2 f a i x a i = x := if_pos ⟨rfl, rfl⟩
theorem q_u2_b {α : Type} (f : Nat → Nat → α) {a b : Nat} (i : Nat) (x : α) (h : b ≠ a) : q_u2 f a i x b = f b := by
  funext j
  exact if_neg (fun z => h z.1)
theorem q_u2_j {α : Type} (f : Nat → Nat → α) (a : Nat) {b i j : Nat} (x : α) (h : j ≠ i) : q_u2 f a i x b j = f b j := if_neg (fun z => h z.2)
theorem q_u2_r (f : QI) (a i : Nat) (x : Int32) : q_u2 f a i x a = upd (f a) i x := by
  funext j
  by_cases h : j = i <;> simp [q_u2, upd, h]
theorem q_u2_rL (f : QJ) (a i : Nat) (x : Int64) : q_u2 f a i x a = vp_updL (f a) i x := by
  funext j
  by_cases h : j = i <;> simp [q_u2, vp_updL, h]
theorem q_lay_at {C : QC} {S : QS} {I : QI} {J : QJ} {k : Nat} (h : k < S.2.1) : (q_lay C S I J)[k]? = some (S.1 k, q_cell C S I J k) := by
  unfold q_lay
  rw [List.getElem?_map, List.getElem?_range h]
  rfl
theorem q_lay_in {C : QC} {S : QS} {I : QI} {J : QJ} {k : Nat} {q : Nat × va_E} (h : (q_lay C S I J)[k]? = some q) : k < S.2.1 ∧ q = (S.1 k, q_cell C S I J k) := by
  have hl : k < (q_lay C S I J).length := (List.getElem?_eq_some_iff.mp h).1
  have hk : k < S.2.1 := by
    unfold q_lay at hl
    rwa [List.length_map, List.length_range] at hl
  rw [q_lay_at hk] at h
  exact ⟨hk, (Option.some.inj h).symm⟩
theorem q_lay_set {C : QC} {S S' : QS} {I I' : QI} {J J' : QJ} {k : Nat} {e : va_E} (hk : k < S.2.1) (hn : S'.2.1 = S.2.1) (ha : S'.1 = S.1) (he : q_cell C S' I' J' k = e) (ho : ∀ j, j ≠ k → q_cell C S' I' J' j = q_cell C S I J j) :
    (q_lay C S I J).set k (S.1 k, e) = q_lay C S' I' J' := by
  apply List.ext_getElem?
  intro i
  by_cases hi : i = k
  · subst hi
    have hl : i < (q_lay C S I J).length := by unfold q_lay; rw [List.length_map, List.length_range]; exact hk
    rw [List.getElem?_set_self hl, q_lay_at (by rw [hn]; exact hk), he, ha]
  · rw [List.getElem?_set_ne (Ne.symm hi)]
    by_cases hs : i < S.2.1
    · rw [q_lay_at hs, q_lay_at (by rw [hn]; exact hs), ho i hi, ha]
    · have h1 : (q_lay C S I J).length ≤ i := by unfold q_lay; rw [List.length_map, List.length_range]; omega
      have h2 : (q_lay C S' I' J').length ≤ i := by unfold q_lay; rw [List.length_map, List.length_range]; omega
      rw [List.getElem?_eq_none h1, List.getElem?_eq_none h2]
theorem q_lay_push {C : QC} {S S' : QS} {I I' : QI} {J J' : QJ} {a : Nat} {e : va_E} (hn : S'.2.1 = S.2.1 + 1) (ha : ∀ j, j < S.2.1 → S'.1 j = S.1 j) (han : S'.1 S.2.1 = a) (he : q_cell C S' I' J' S.2.1 = e) (ho : ∀ j, j < S.2.1 → q_cell C S' I' J' j = q_cell C S I J j) :
    q_lay C S I J ++ [(a, e)] = q_lay C S' I' J' := by
  unfold q_lay
  rw [hn, List.range_succ, List.map_append, List.map_singleton, han, he]
  congr 1
  apply List.map_congr_left
  intro j hj
  have hj := List.mem_range.mp hj
  rw [ha j hj, ho j hj]
/-- kinds -/
theorem q_cell_o {C : QC} {S : QS} {I : QI} {J : QJ} {k ci : Nat} (h : S.2.2.1 k = ci) (hc : ci < 8) : q_cell C S I J k = .inr (ci, (List.range (q_nf ci)).map (fun j => q_fv S.1 S.2.2.2.2 I (q_ir (q_ty ci j)) k j)) := by
  unfold q_cell
  rw [if_pos (by rw [h]; exact hc), h]
theorem q_cell_i {C : QC} {S : QS} {I : QI} {J : QJ} {k : Nat} (h : S.2.2.1 k = 9) : q_cell C S I J k = .inl (C.2.2.1, S.2.2.2.1 k, .inl (I k)) := by
  unfold q_cell
  rw [h]; rfl
theorem q_cell_j {C : QC} {S : QS} {I : QI} {J : QJ} {k : Nat} (h : S.2.2.1 k = 10) : q_cell C S I J k = .inl (C.2.2.2.1, S.2.2.2.1 k, .inr (.inl (J k))) := by
  unfold q_cell
  rw [h]; rfl
theorem q_cell_z {C : QC} {S : QS} {I : QI} {J : QJ} {k : Nat} (h : S.2.2.1 k = 11) : q_cell C S I J k = .inl (C.2.2.2.2.1, S.2.2.2.1 k, .inl (I k)) := by
  unfold q_cell
  rw [h]; rfl
theorem q_cell_t {C : QC} {S : QS} {I : QI} {J : QJ} {k : Nat} (h : S.2.2.1 k = 12) : q_cell C S I J k = .inl (C.2.2.2.2.2, S.2.2.2.1 k, .inr (.inr (.inr (.inr (fun j => (S.2.2.2.2 k j).map S.1))))) := by
  unfold q_cell
  rw [h]; rfl
theorem q_cell_cong {C : QC} {S S' : QS} {I I' : QI} {J J' : QJ} {k : Nat} (ha : ∀ j q, S.2.2.2.2 k j = some q → S'.1 q = S.1 q) (hK : S'.2.2.1 k = S.2.2.1 k) (hz : S'.2.2.2.1 k = S.2.2.2.1 k) (hr : S'.2.2.2.2 k = S.2.2.2.2 k) (hi : I' k = I k) (hj : J' k = J k) : q_cell C S' I' J' k = q_cell C S I J k := by
  have hm : ∀ j, (S.2.2.2.2 k j).map S'.1 = (S.2.2.2.2 k j).map S.1 := by
    intro j
    cases h : S.2.2.2.2 k j with
    | none => rfl
    | some q => simp only [Option.map_some, ha j q h]
  have hf : ∀ j : Nat, q_fv S'.1 S'.2.2.2.2 I' (q_ir (q_ty (S.2.2.1 k) j)) k j = q_fv S.1 S.2.2.2.2 I (q_ir (q_ty (S.2.2.1 k) j)) k j := by
    intro j
    cases q_ir (q_ty (S.2.2.1 k) j)
    · simp only [q_fv, hi]
    · simp only [q_fv, hr, hm]
  unfold q_cell
  simp only [hK, hz, hi, hj, hr, hm, hf]
def q_A (X : QX) : Nat → Prop := fun q => X.2.2 ≤ q
def q_tys (C : QC) : List (ClassId × FieldType) := [(C.2.2.1, .int), (C.2.2.2.2.1, .boolean), (C.2.2.2.2.2, .object RX5)]
def q_exs : List String := ["java/lang/IllegalArgumentException", "java/lang/IllegalStateException", "java/lang/IndexOutOfBoundsException"]
def q_dec : List MethodName := [⟨"java/lang/RuntimeException", "<init>", "(Ljava/lang/String;)V"⟩, ⟨"java/lang/Exception", "<init>", "(Ljava/lang/String;)V"⟩, ⟨"java/lang/Throwable", "<init>", "(Ljava/lang/String;)V"⟩]
def q_nests : List (String × Nat × MethodName × String) := [(RX5, 30, yX7_isKnownValue, "QueryLoft"), (RX0, 154, yX7_isTrue, "QueryLoft"), (RX6, 57, yX7_areEqual, "QueryLoft")]
def q_strs : List (Nat × String) := [(156, "no such node"), (166, "too many rows or steps"), (190, "there would be more than 24 nodes"), (64, "a table has 1 to 3 columns"), (75, "there are 4 tables"), (84, "no such table"), (93, "a value is out of range"), (99, "the table has 10 rows"), (116, "no such table or row"), (126, "there are 24 nodes"), (132, "no such node or column"), (137, "comparison or value is out of range"), (139, "the value is 0 for this comparison"), (141, "kind is out of range"), (147, "it would have more than 6 columns"), (149, "no such second column"), (151, "column is 0 for this kind"), (161, "the nodes have unlike numbers of columns"), (171, "no such node, column or row"), (173, "no such row"), (185, "a budget has 1 to 100000 steps"), (204, "no such table or column"), (206, "both tables are the same"), (209, "there are 6 links"), (216, "no such set of tables"), (228, "there are 4 views"), (239, "no such view or row"), (246, "the table has 1 column"), (231, "no such view"), (201, "what is out of range")]
/-- what stays as it is of the tables' words that are no good ones -/
def q_Fx (U : State) : Prop := (∀ q ∈ q_strs, ∃ sa : Nat, vk_R RX7 q.1 q.2 sa U) ∧ (∀ q ∈ q_nests, va_Nw (.methodLinkNest q.1 q.2.1 q.2.2.1 q.2.2.2) U) ∧ (∀ E ∈ q_exs, va_Nw (.castable E E) U) ∧ (∀ E ∈ q_exs, ∀ F ∈ q_exs, E ≠ F → va_Nc E F U) ∧ va_AO RX5 U ∧ ∀ x ∈ q_dec, va_Nw (.declares x) U
theorem q_Fx.warm {s U : State} (hW : s.WarmedH U.vm) (h : q_Fx s) : q_Fx U := by
  obtain ⟨h1, h2, h3, h4, h5, h6⟩ := h
  exact ⟨fun q hq => (h1 q hq).elim (fun sa hs => ⟨sa, vk_R.warm hW hs⟩), fun q hq => va_Nw.warmM hW (h2 q hq), fun E hE => va_Nw.warmC hW (h3 E hE), fun E hE F hF hn => va_Nc.moved hW.alike (h4 E hE F hF hn), va_AO.moved hW.alike h5, fun x hx => va_Nw.warmD hW (h6 x hx)⟩
/-- what a frame's start must hold beside the cells -/
def q_W0 (X : QX) (U : State) (H : Heap) : Prop := va_X X.2.1.1 X.2.1.2.1 X.2.1.2.2 U H ∧ X.2.1.1 < X.2.2 ∧ X.2.2 ≤ H.size ∧ va_K (X.1.1, X.1.2.1) vwCl (q_tys X.1) U ∧ vx_Zq Bundle.tN "UNASSIGNED_STACK" Bundle.steD (q_A X) U H ∧ vx_Zq Bundle.tN "SUPPRESSED_SENTINEL" Bundle.listD (q_A X) U H ∧ q_Fx U
theorem q_W0.on {X : QX} {s U : State} {H : Heap} {locs : List Loc} (h : q_W0 X s s.heap) (hS : va_S (q_A X) s.heap H locs) (hW : s.WarmedH U.vm) : q_W0 X U H := by
  obtain ⟨h1, h2, h3, h4, h5, h6, h7⟩ := h
  have hb : X.2.1.1 < s.heap.size := Nat.lt_of_lt_of_le h2 h3
  have hk : ∀ q : Nat, q < s.heap.size → ¬ q_A X q → H[q]? = s.heap[q]? := hS.2.1
  have hnA : ¬ q_A X X.2.1.1 := fun z => absurd h2 (Nat.not_lt.mpr z)
  exact ⟨va_X.moved hW.alike (va_X.kept h1 (hk _ hb hnA)), h2, Nat.le_trans h3 hS.1, va_K.moved hW.alike h4, vx_Zq.moved hW.alike (vx_Zq.kept h5 hk), vx_Zq.moved hW.alike (vx_Zq.kept h6 hk), h7.warm hW⟩
/-- the cells -/
def q_WC (X : QX) (S : QS) (I : QI) (J : QJ) (H : Heap) : Prop := va_P (X.1.1, X.1.2.1) vwCl (q_lay X.1 S I J) H ∧ va_D (q_A X) (q_lay X.1 S I J)
def q_lc (ad : Nat → Nat) (l : List (Nat × Value)) : List (Nat × Value) := l.map (fun q => (q.1, q_cv ad q.2))
def q_get (l : List (Nat × Value)) (i : Nat) : Option Value := (l.find? (fun q => q.1 == i)).map (·.2)
def q_set (l : List (Nat × Value)) (i : Nat) (v : Value) : List (Nat × Value) := (i, v) :: l.filter (fun q => !(q.1 == i) && !(q.1 + 1 == i && q.2.category == 2))
theorem q_cat (ad : Nat → Nat) (v : Value) : (q_cv ad v).category = v.category := by cases v <;> rfl
theorem q_lc_set (ad : Nat → Nat) (l : List (Nat × Value)) (i : Nat) (v : Value) : q_lc ad (q_set l i v) = (i, q_cv ad v) :: (q_lc ad l).filter (fun q => !(q.1 == i) && !(q.1 + 1 == i && q.2.category == 2)) := by
  unfold q_lc q_set
  rw [List.map_cons, List.filter_map]
  congr 2
  apply List.filter_congr
  intro q _
  simp only [Function.comp_apply, q_cat]
theorem q_lc_get {ad : Nat → Nat} {ls : Array Slot} {nL : Nat} {l : List (Nat × Value)} (h : lv_has ls nL (q_lc ad l)) {i : Nat} {v : Value} (hg : q_get l i = some v) : ls[i]? = some (.val (q_cv ad v)) := by
  unfold q_get at hg
  cases hf : l.find? (fun q => q.1 == i) with
  | none => rw [hf] at hg; cases hg
  | some q =>
    rw [hf] at hg
    have hv : q.2 = v := Option.some.inj hg
    have hi : q.1 = i := by simpa using List.find?_some hf
    have hm : (q.1, q_cv ad q.2) ∈ q_lc ad l := List.mem_map.mpr ⟨q, List.mem_of_find?_eq_some hf, rfl⟩
    have h9 := h.2.2 _ hm
    rw [hi, hv] at h9
    exact h9
theorem q_lc_sub {ad : Nat → Nat} {ls : Array Slot} {nL : Nat} {l l' : List (Nat × Value)} (h : lv_has ls nL (q_lc ad l)) (ks : List Nat) (hl : lv_pick l ks = l') : lv_has ls nL (q_lc ad l') := by
  refine ⟨h.1, h.2.1, fun q hq => ?_⟩
  obtain ⟨q0, h0, rfl⟩ := List.mem_map.mp hq
  rw [← hl] at h0
  obtain ⟨k, -, hk⟩ := List.mem_filterMap.mp h0
  exact h.2.2 _ (List.mem_map.mpr ⟨q0, List.mem_of_getElem? hk, rfl⟩)
/-- a depth's room -/
def q_rm (d cT sT : Nat) : Room := { frames := d + 8, cells := cT, slots := sT, locals := 64 * d + 128 }
abbrev QP : Type := (Option Value ⊕ String) → QS → QI → QJ → Prop
def q_Qc (X : QX) (Q : QP) : Array Value → State → Outcome → State → Prop := fun _ st o t => ∃ (v : Option Value) (S : QS) (I : QI) (J : QJ), o = .returned (v.map (q_cv S.1)) ∧ Q (.inl v) S I J ∧ q_WC X S I J t.heap ∧ va_F (q_A X) st t
def q_Xc (X : QX) (Q : QP) : String → State → State → Prop := fun E st t => ∃ (S : QS) (I : QI) (J : QJ), Q (.inr E) S I J ∧ q_WC X S I J t.heap ∧ va_F (q_A X) st t
def q_En (M : MD) (p : Program) (l : Launch) (s : State) (m : MethodId) (args : Array Value) (meth : Method) (c : Code) : Prop :=
  (p.tables.exec = Jvm.exec ∧ c.code = M.2.2.1 ∧ c.maxLocals = M.2.2.2.1 ∧ s.vm.findClass M.1 = some m.cls ∧ ∀ w ∈ q_TB, w.before args s = true) ∧ meth.sig.returnType = M.2.2.2.2.1 ∧ meth.locks = false ∧ c.exceptionTable.toList = tableOf M.2.2.2.2.2 ∧ meth.name = M.2.1.name ∧ l.stackTraces = false
/-- from here on, with these locals, this stack and these cells, the method comes to an end with Q -/
def V (X : QX) (M : MD) (d cT sT : Nat) (Q : QP) (pc : Nat) (lo : List (Nat × Value)) (st : List Value) (S : QS) (I : QI) (J : QJ) (k n : Nat) : Prop :=
  ∀ (p : Program) (l : Launch) (e : Env) (s : State) (m : MethodId) (args : Array Value) (below : List Frame) (meth : Method) (c : Code) (H : Heap) (locs : List Loc) (ls : Array Slot),
    q_En M p l s m args meth c → q_W0 X s s.heap → q_WC X S I J H → va_S (q_A X) s.heap H locs → lv_has ls M.2.2.2.1 (q_lc S.1 lo) →
    W p l e (q_rm d cT sT) s m args below meth c H locs k n (vx_MQ below (q_Qc X Q) (q_Xc X Q) args s cT sT (q_A X)) (F0 m pc ls (st.map (q_cv S.1)))
/-- thrown here: an exception of class E -/
def VT (X : QX) (M : MD) (d cT sT : Nat) (Q : QP) (pc : Nat) (lo : List (Nat × Value)) (E : String) (S : QS) (I : QI) (J : QJ) (k n : Nat) : Prop :=
  ∀ (p : Program) (l : Launch) (e : Env) (s : State) (m : MethodId) (args : Array Value) (below : List Frame) (meth : Method) (c : Code) (H : Heap) (locs : List Loc) (ls : Array Slot) (rest : List Value) (ce : Cell) (q9 : Addr),
    q_En M p l s m args meth c → q_W0 X s s.heap → q_WC X S I J H → va_S (q_A X) s.heap H locs → lv_has ls M.2.2.2.1 (q_lc S.1 lo) →
    H[q9]? = some ce → ce.vm = .none → s.vm.findClass E = some ce.cls →
    vx_W p l e (q_rm d cT sT) s m args below meth c H locs k n (vx_MQ below (q_Qc X Q) (q_Xc X Q) args s cT sT (q_A X)) (F0 m pc ls rest) q9
/-- a method's contract: from these arguments and cells it returns, or throws, with Q -/
def CX (X : QX) (M : MD) (d cT sT : Nat) (av : List Value) (S : QS) (I : QI) (J : QJ) (Q : QP) : Prop :=
  ∀ l : Launch, l.stackTraces = false → vx_Met l M.2.1 (q_ws M) (q_rm d cT sT) (fun a U => a = (av.map (q_cv S.1)).toArray ∧ q_W0 X U U.heap ∧ q_WC X S I J U.heap) (q_Qc X Q) (q_Xc X Q) cT sT (q_A X)
section QV
variable {X : QX} {M : MD} {d cT sT : Nat} {Q : QP} {pc : Nat} {lo : List (Nat × Value)} {st : List Value} {S : QS} {I : QI} {J : QJ} {k n : Nat}
theorem V_iload_n {j : Fin 4} {i : Nat} {x : Int32} (hd : decode M.2.2.1 pc = .ok (.iload_n j, 1)) (hi : (j : Nat) = i) (hg : q_get lo i = some (.int x)) (kk : V X M d cT sT Q (pc + 1) lo (.int x :: st) S I J k n) : V X M d cT sT Q pc lo st S I J k n := by
  intro p l e s m args below meth c H locs ls En W0 WC hS hl
  exact lv_iload_n En.1.1 En.1.2.1 hd hi (q_lc_get hl hg) (kk p l e s m args below meth c H locs ls En W0 WC hS hl)
theorem V_iload {i : Nat} {x : Int32} (hd : decode M.2.2.1 pc = .ok (.iload i, 2)) (hg : q_get lo i = some (.int x)) (kk : V X M d cT sT Q (pc + 2) lo (.int x :: st) S I J k n) : V X M d cT sT Q pc lo st S I J k n := by
  intro p l e s m args below meth c H locs ls En W0 WC hS hl
  exact lv_iload En.1.1 En.1.2.1 hd (q_lc_get hl hg) (kk p l e s m args below meth c H locs ls En W0 WC hS hl)
theorem V_aload_n {j : Fin 4} {i : Nat} {x : Nat} (hd : decode M.2.2.1 pc = .ok (.aload_n j, 1)) (hi : (j : Nat) = i) (hg : q_get lo i = some (.ref x)) (kk : V X M d cT sT Q (pc + 1) lo (.ref x :: st) S I J k n) : V X M d cT sT Q pc lo st S I J k n := by
  intro p l e s m args below meth c H locs ls En W0 WC hS hl
  exact lv_aload_n En.1.1 En.1.2.1 hd hi (q_lc_get hl hg) (kk p l e s m args below meth c H locs ls En W0 WC hS hl)
theorem V_aload {i : Nat} {x : Nat} (hd : decode M.2.2.1 pc = .ok (.aload i, 2)) (hg : q_get lo i = some (.ref x)) (kk : V X M d cT sT Q (pc + 2) lo (.ref x :: st) S I J k n) : V X M d cT sT Q pc lo st S I J k n := by
  intro p l e s m args below meth c H locs ls En W0 WC hS hl
  exact lv_aload En.1.1 En.1.2.1 hd (q_lc_get hl hg) (kk p l e s m args below meth c H locs ls En W0 WC hS hl)
theorem V_aload_nN {j : Fin 4} {i : Nat} (hd : decode M.2.2.1 pc = .ok (.aload_n j, 1)) (hi : (j : Nat) = i) (hg : q_get lo i = some .null) (kk : V X M d cT sT Q (pc + 1) lo (.null :: st) S I J k n) : V X M d cT sT Q pc lo st S I J k n := by
  intro p l e s m args below meth c H locs ls En W0 WC hS hl
  exact lv_aload_nN En.1.1 En.1.2.1 hd hi (q_lc_get hl hg) (kk p l e s m args below meth c H locs ls En W0 WC hS hl)
theorem V_aloadN {i : Nat} (hd : decode M.2.2.1 pc = .ok (.aload i, 2)) (hg : q_get lo i = some .null) (kk : V X M d cT sT Q (pc + 2) lo (.null :: st) S I J k n) : V X M d cT sT Q pc lo st S I J k n := by
  intro p l e s m args below meth c H locs ls En W0 WC hS hl
  exact lv_aloadN En.1.1 En.1.2.1 hd (q_lc_get hl hg) (kk p l e s m args below meth c H locs ls En W0 WC hS hl)
theorem V_iconst {a : Int} {v : Int32} (hd : decode M.2.2.1 pc = .ok (.iconst a, 1)) (hv : Int32.ofInt a = v) (kk : V X M d cT sT Q (pc + 1) lo (.int v :: st) S I J k n) : V X M d cT sT Q pc lo st S I J k n := by
  intro p l e s m args below meth c H locs ls En W0 WC hS hl
  exact lv_iconst En.1.1 En.1.2.1 hd hv (kk p l e s m args below meth c H locs ls En W0 WC hS hl)
theorem V_bipush {a : Int} {v : Int32} (hd : decode M.2.2.1 pc = .ok (.bipush a, 2)) (hv : (Int8.ofInt a).toInt32 = v) (kk : V X M d cT sT Q (pc + 2) lo (.int v :: st) S I J k n) : V X M d cT sT Q pc lo st S I J k n := by
  intro p l e s m args below meth c H locs ls En W0 WC hS hl
  exact lv_bipush En.1.1 En.1.2.1 hd hv (kk p l e s m args below meth c H locs ls En W0 WC hS hl)
theorem V_sipush {a : Int} {v : Int32} (hd : decode M.2.2.1 pc = .ok (.sipush a, 3)) (hv : (Int16.ofInt a).toInt32 = v) (kk : V X M d cT sT Q (pc + 3) lo (.int v :: st) S I J k n) : V X M d cT sT Q pc lo st S I J k n := by
  intro p l e s m args below meth c H locs ls En W0 WC hS hl
  exact lv_sipush En.1.1 En.1.2.1 hd hv (kk p l e s m args below meth c H locs ls En W0 WC hS hl)
theorem V_null (hd : decode M.2.2.1 pc = .ok (.aconst_null, 1))  (kk : V X M d cT sT Q (pc + 1) lo (.null :: st) S I J k n) : V X M d cT sT Q pc lo st S I J k n := by
  intro p l e s m args below meth c H locs ls En W0 WC hS hl
  exact lv_null En.1.1 En.1.2.1 hd (kk p l e s m args below meth c H locs ls En W0 WC hS hl)
theorem V_iadd {x y : Int32} (hd : decode M.2.2.1 pc = .ok (.iadd, 1))  (kk : V X M d cT sT Q (pc + 1) lo (.int (x + y) :: st) S I J k n) : V X M d cT sT Q pc lo (.int y :: .int x :: st) S I J k n := by
  intro p l e s m args below meth c H locs ls En W0 WC hS hl
  exact lv_iadd En.1.1 En.1.2.1 hd (kk p l e s m args below meth c H locs ls En W0 WC hS hl)
theorem V_isub {x y : Int32} (hd : decode M.2.2.1 pc = .ok (.isub, 1))  (kk : V X M d cT sT Q (pc + 1) lo (.int (x - y) :: st) S I J k n) : V X M d cT sT Q pc lo (.int y :: .int x :: st) S I J k n := by
  intro p l e s m args below meth c H locs ls En W0 WC hS hl
  exact lv_isub En.1.1 En.1.2.1 hd (kk p l e s m args below meth c H locs ls En W0 WC hS hl)
theorem V_imul {x y : Int32} (hd : decode M.2.2.1 pc = .ok (.imul, 1))  (kk : V X M d cT sT Q (pc + 1) lo (.int (x * y) :: st) S I J k n) : V X M d cT sT Q pc lo (.int y :: .int x :: st) S I J k n := by
  intro p l e s m args below meth c H locs ls En W0 WC hS hl
  exact lv_imul En.1.1 En.1.2.1 hd (kk p l e s m args below meth c H locs ls En W0 WC hS hl)
theorem V_iand {x y : Int32} (hd : decode M.2.2.1 pc = .ok (.iand, 1))  (kk : V X M d cT sT Q (pc + 1) lo (.int (x &&& y) :: st) S I J k n) : V X M d cT sT Q pc lo (.int y :: .int x :: st) S I J k n := by
  intro p l e s m args below meth c H locs ls En W0 WC hS hl
  exact lv_iand En.1.1 En.1.2.1 hd (kk p l e s m args below meth c H locs ls En W0 WC hS hl)
theorem V_ior {x y : Int32} (hd : decode M.2.2.1 pc = .ok (.ior, 1))  (kk : V X M d cT sT Q (pc + 1) lo (.int (x ||| y) :: st) S I J k n) : V X M d cT sT Q pc lo (.int y :: .int x :: st) S I J k n := by
  intro p l e s m args below meth c H locs ls En W0 WC hS hl
  exact lv_ior En.1.1 En.1.2.1 hd (kk p l e s m args below meth c H locs ls En W0 WC hS hl)
theorem V_ixor {x y : Int32} (hd : decode M.2.2.1 pc = .ok (.ixor, 1))  (kk : V X M d cT sT Q (pc + 1) lo (.int (x ^^^ y) :: st) S I J k n) : V X M d cT sT Q pc lo (.int y :: .int x :: st) S I J k n := by
  intro p l e s m args below meth c H locs ls En W0 WC hS hl
  exact lv_ixor En.1.1 En.1.2.1 hd (kk p l e s m args below meth c H locs ls En W0 WC hS hl)
theorem V_ishl {x y : Int32} (hd : decode M.2.2.1 pc = .ok (.ishl, 1))  (kk : V X M d cT sT Q (pc + 1) lo (.int (x <<< (y &&& 31)) :: st) S I J k n) : V X M d cT sT Q pc lo (.int y :: .int x :: st) S I J k n := by
  intro p l e s m args below meth c H locs ls En W0 WC hS hl
  exact lv_ishl En.1.1 En.1.2.1 hd (kk p l e s m args below meth c H locs ls En W0 WC hS hl)
theorem V_ishr {x y : Int32} (hd : decode M.2.2.1 pc = .ok (.ishr, 1))  (kk : V X M d cT sT Q (pc + 1) lo (.int (x >>> (y &&& 31)) :: st) S I J k n) : V X M d cT sT Q pc lo (.int y :: .int x :: st) S I J k n := by
  intro p l e s m args below meth c H locs ls En W0 WC hS hl
  exact lv_ishr En.1.1 En.1.2.1 hd (kk p l e s m args below meth c H locs ls En W0 WC hS hl)
theorem V_idiv {x y : Int32} (hd : decode M.2.2.1 pc = .ok (.idiv, 1)) (hne : ¬ y = 0) (kk : V X M d cT sT Q (pc + 1) lo (.int (x / y) :: st) S I J k n) : V X M d cT sT Q pc lo (.int y :: .int x :: st) S I J k n := by
  intro p l e s m args below meth c H locs ls En W0 WC hS hl
  exact lv_idiv En.1.1 En.1.2.1 hd hne (kk p l e s m args below meth c H locs ls En W0 WC hS hl)
theorem V_irem {x y : Int32} (hd : decode M.2.2.1 pc = .ok (.irem, 1)) (hne : ¬ y = 0) (kk : V X M d cT sT Q (pc + 1) lo (.int (x - x / y * y) :: st) S I J k n) : V X M d cT sT Q pc lo (.int y :: .int x :: st) S I J k n := by
  intro p l e s m args below meth c H locs ls En W0 WC hS hl
  exact lv_irem En.1.1 En.1.2.1 hd hne (kk p l e s m args below meth c H locs ls En W0 WC hS hl)
theorem V_ineg {x : Int32} (hd : decode M.2.2.1 pc = .ok (.ineg, 1))  (kk : V X M d cT sT Q (pc + 1) lo (.int (-x) :: st) S I J k n) : V X M d cT sT Q pc lo (.int x :: st) S I J k n := by
  intro p l e s m args below meth c H locs ls En W0 WC hS hl
  exact lv_ineg En.1.1 En.1.2.1 hd (kk p l e s m args below meth c H locs ls En W0 WC hS hl)
theorem V_i2l {x : Int32} (hd : decode M.2.2.1 pc = .ok (.i2l, 1))  (kk : V X M d cT sT Q (pc + 1) lo (.long x.toInt64 :: st) S I J k n) : V X M d cT sT Q pc lo (.int x :: st) S I J k n := by
  intro p l e s m args below meth c H locs ls En W0 WC hS hl
  exact lv_i2l En.1.1 En.1.2.1 hd rfl (kk p l e s m args below meth c H locs ls En W0 WC hS hl)
theorem V_l2i {x : Int64} (hd : decode M.2.2.1 pc = .ok (.l2i, 1))  (kk : V X M d cT sT Q (pc + 1) lo (.int x.toInt32 :: st) S I J k n) : V X M d cT sT Q pc lo (.long x :: st) S I J k n := by
  intro p l e s m args below meth c H locs ls En W0 WC hS hl
  exact lv_l2i En.1.1 En.1.2.1 hd rfl (kk p l e s m args below meth c H locs ls En W0 WC hS hl)
theorem V_ladd {x y : Int64} (hd : decode M.2.2.1 pc = .ok (.ladd, 1))  (kk : V X M d cT sT Q (pc + 1) lo (.long (x + y) :: st) S I J k n) : V X M d cT sT Q pc lo (.long y :: .long x :: st) S I J k n := by
  intro p l e s m args below meth c H locs ls En W0 WC hS hl
  exact lv_ladd En.1.1 En.1.2.1 hd (kk p l e s m args below meth c H locs ls En W0 WC hS hl)
theorem V_lconst {a : Fin 2} (hd : decode M.2.2.1 pc = .ok (.lconst a, 1))  (kk : V X M d cT sT Q (pc + 1) lo (.long (Int64.ofNat (a : Nat)) :: st) S I J k n) : V X M d cT sT Q pc lo st S I J k n := by
  intro p l e s m args below meth c H locs ls En W0 WC hS hl
  exact lv_lconst En.1.1 En.1.2.1 hd rfl (kk p l e s m args below meth c H locs ls En W0 WC hS hl)
theorem V_lcmp {x y : Int64} (hd : decode M.2.2.1 pc = .ok (.lcmp, 1))  (kk : V X M d cT sT Q (pc + 1) lo (.int (lg_cmp x y) :: st) S I J k n) : V X M d cT sT Q pc lo (.long y :: .long x :: st) S I J k n := by
  intro p l e s m args below meth c H locs ls En W0 WC hS hl
  exact W.lcmp En.1.1 En.1.2.1 hd (kk p l e s m args below meth c H locs ls En W0 WC hS hl)
theorem V_dup {v : Value} (hd : decode M.2.2.1 pc = .ok (.dup, 1)) (hv : v.category = 1) (kk : V X M d cT sT Q (pc + 1) lo (v :: v :: st) S I J k n) : V X M d cT sT Q pc lo (v :: st) S I J k n := by
  intro p l e s m args below meth c H locs ls En W0 WC hS hl
  exact lv_dup En.1.1 En.1.2.1 hd ((q_cat S.1 v).trans hv) (kk p l e s m args below meth c H locs ls En W0 WC hS hl)
theorem V_dup2 {v w : Value} (hd : decode M.2.2.1 pc = .ok (.dup2, 1)) (hv : v.category = 1) (hw : w.category = 1) (kk : V X M d cT sT Q (pc + 1) lo (v :: w :: v :: w :: st) S I J k n) : V X M d cT sT Q pc lo (v :: w :: st) S I J k n := by
  intro p l e s m args below meth c H locs ls En W0 WC hS hl
  exact lv_dup2_11 En.1.1 En.1.2.1 hd ((q_cat S.1 v).trans hv) ((q_cat S.1 w).trans hw) (kk p l e s m args below meth c H locs ls En W0 WC hS hl)
theorem V_pop {v : Value} (hd : decode M.2.2.1 pc = .ok (.pop, 1)) (hv : v.category = 1) (kk : V X M d cT sT Q (pc + 1) lo st S I J k n) : V X M d cT sT Q pc lo (v :: st) S I J k n := by
  intro p l e s m args below meth c H locs ls En W0 WC hS hl
  exact lv_pop En.1.1 En.1.2.1 hd ((q_cat S.1 v).trans hv) (kk p l e s m args below meth c H locs ls En W0 WC hS hl)
theorem V_ldc {i : Nat} {v : Int32} (hd : decode M.2.2.1 pc = .ok (.ldc i, 2)) (hw : Cond.constant M.1 i v ∈ q_TB) (kk : V X M d cT sT Q (pc + 2) lo (.int v :: st) S I J k n) : V X M d cT sT Q pc lo st S I J k n := by
  intro p l e s m args below meth c H locs ls En W0 WC hS hl
  exact lv_ldc En.1.1 En.1.2.1 En.1.2.2.2.1 (En.1.2.2.2.2 _ hw) hd (kk p l e s m args below meth c H locs ls En W0 WC hS hl)
theorem V_ldcw {i : Nat} {v : Int32} (hd : decode M.2.2.1 pc = .ok (.ldc_w i, 3)) (hw : Cond.constant M.1 i v ∈ q_TB) (kk : V X M d cT sT Q (pc + 3) lo (.int v :: st) S I J k n) : V X M d cT sT Q pc lo st S I J k n := by
  intro p l e s m args below meth c H locs ls En W0 WC hS hl
  exact lv_ldcw En.1.1 En.1.2.1 En.1.2.2.2.1 (En.1.2.2.2.2 _ hw) hd (kk p l e s m args below meth c H locs ls En W0 WC hS hl)
theorem V_istore_n {j : Fin 4} {i : Nat} {x : Int32} {lo2 : List (Nat × Value)} (hd : decode M.2.2.1 pc = .ok (.istore_n j, 1)) (hi : (j : Nat) = i) (hn : i < M.2.2.2.1) (hq : q_set lo i (.int x) = lo2) (kk : V X M d cT sT Q (pc + 1) lo2 st S I J k n) : V X M d cT sT Q pc lo ((.int x) :: st) S I J k n := by
  intro p l e s m args below meth c H locs ls En W0 WC hS hl
  subst hq
  exact lv_istore_n En.1.1 En.1.2.1 hd hi hl hn (q_lc_set S.1 lo i (.int x)).symm (fun ls2 hl2 => kk p l e s m args below meth c H locs ls2 En W0 WC hS hl2)
theorem V_istore {i : Nat} {x : Int32} {lo2 : List (Nat × Value)} (hd : decode M.2.2.1 pc = .ok (.istore i, 2))  (hn : i < M.2.2.2.1) (hq : q_set lo i (.int x) = lo2) (kk : V X M d cT sT Q (pc + 2) lo2 st S I J k n) : V X M d cT sT Q pc lo ((.int x) :: st) S I J k n := by
  intro p l e s m args below meth c H locs ls En W0 WC hS hl
  subst hq
  exact lv_istore En.1.1 En.1.2.1 hd  hl hn (q_lc_set S.1 lo i (.int x)).symm (fun ls2 hl2 => kk p l e s m args below meth c H locs ls2 En W0 WC hS hl2)
theorem V_astore_n {j : Fin 4} {i : Nat} {x : Nat} {lo2 : List (Nat × Value)} (hd : decode M.2.2.1 pc = .ok (.astore_n j, 1)) (hi : (j : Nat) = i) (hn : i < M.2.2.2.1) (hq : q_set lo i (.ref x) = lo2) (kk : V X M d cT sT Q (pc + 1) lo2 st S I J k n) : V X M d cT sT Q pc lo ((.ref x) :: st) S I J k n := by
  intro p l e s m args below meth c H locs ls En W0 WC hS hl
  subst hq
  exact lv_astore_n En.1.1 En.1.2.1 hd hi hl hn (q_lc_set S.1 lo i (.ref x)).symm (fun ls2 hl2 => kk p l e s m args below meth c H locs ls2 En W0 WC hS hl2)
theorem V_astore {i : Nat} {x : Nat} {lo2 : List (Nat × Value)} (hd : decode M.2.2.1 pc = .ok (.astore i, 2))  (hn : i < M.2.2.2.1) (hq : q_set lo i (.ref x) = lo2) (kk : V X M d cT sT Q (pc + 2) lo2 st S I J k n) : V X M d cT sT Q pc lo ((.ref x) :: st) S I J k n := by
  intro p l e s m args below meth c H locs ls En W0 WC hS hl
  subst hq
  exact lv_astore En.1.1 En.1.2.1 hd  hl hn (q_lc_set S.1 lo i (.ref x)).symm (fun ls2 hl2 => kk p l e s m args below meth c H locs ls2 En W0 WC hS hl2)
theorem V_astore_nN {j : Fin 4} {i : Nat} {lo2 : List (Nat × Value)} (hd : decode M.2.2.1 pc = .ok (.astore_n j, 1)) (hi : (j : Nat) = i) (hn : i < M.2.2.2.1) (hq : q_set lo i .null = lo2) (kk : V X M d cT sT Q (pc + 1) lo2 st S I J k n) : V X M d cT sT Q pc lo (.null :: st) S I J k n := by
  intro p l e s m args below meth c H locs ls En W0 WC hS hl
  subst hq
  exact lv_astore_nN En.1.1 En.1.2.1 hd hi hl hn (q_lc_set S.1 lo i .null).symm (fun ls2 hl2 => kk p l e s m args below meth c H locs ls2 En W0 WC hS hl2)
theorem V_astoreN {i : Nat} {lo2 : List (Nat × Value)} (hd : decode M.2.2.1 pc = .ok (.astore i, 2))  (hn : i < M.2.2.2.1) (hq : q_set lo i .null = lo2) (kk : V X M d cT sT Q (pc + 2) lo2 st S I J k n) : V X M d cT sT Q pc lo (.null :: st) S I J k n := by
  intro p l e s m args below meth c H locs ls En W0 WC hS hl
  subst hq
  exact lv_astoreN En.1.1 En.1.2.1 hd  hl hn (q_lc_set S.1 lo i .null).symm (fun ls2 hl2 => kk p l e s m args below meth c H locs ls2 En W0 WC hS hl2)
theorem V_iinc {i : Nat} {a : Int} {x v : Int32} {lo2 : List (Nat × Value)} (j : Nat) (hd : decode M.2.2.1 pc = .ok (.iinc i a, 3)) (hj : lo[j]? = some (i, .int x)) (hv : x + Int32.ofInt a = v) (hn : i < M.2.2.2.1) (hq : q_set lo i (.int v) = lo2) (kk : V X M d cT sT Q (pc + 3) lo2 st S I J k n) : V X M d cT sT Q pc lo st S I J k n := by
  intro p l e s m args below meth c H locs ls En W0 WC hS hl
  subst hq
  exact lv_iinc En.1.1 En.1.2.1 hd hl (k := j) (by unfold q_lc; rw [List.getElem?_map, hj]; rfl) hv hn (q_lc_set S.1 lo i (.int v)).symm (fun ls2 hl2 => kk p l e s m args below meth c H locs ls2 En W0 WC hS hl2)
theorem V_icmp_eq {x y : Int32} {off : Int} (tgt : Nat) (hd : decode M.2.2.1 pc = .ok (.if_icmp .eq off, 3)) (ht : (pc : Int) + off = (tgt : Int)) (kt : x = y → V X M d cT sT Q tgt lo st S I J k n) (kf : ¬ x = y → V X M d cT sT Q (pc + 3) lo st S I J k n) : V X M d cT sT Q pc lo (.int y :: .int x :: st) S I J k n := by
  intro p l e s m args below meth c H locs ls En W0 WC hS hl
  exact lv_icmp_eq En.1.1 En.1.2.1 hd ht (fun z => kt z p l e s m args below meth c H locs ls En W0 WC hS hl) (fun z => kf z p l e s m args below meth c H locs ls En W0 WC hS hl)
theorem V_icmp_ne {x y : Int32} {off : Int} (tgt : Nat) (hd : decode M.2.2.1 pc = .ok (.if_icmp .ne off, 3)) (ht : (pc : Int) + off = (tgt : Int)) (kt : ¬ x = y → V X M d cT sT Q tgt lo st S I J k n) (kf : x = y → V X M d cT sT Q (pc + 3) lo st S I J k n) : V X M d cT sT Q pc lo (.int y :: .int x :: st) S I J k n := by
  intro p l e s m args below meth c H locs ls En W0 WC hS hl
  exact lv_icmp_ne En.1.1 En.1.2.1 hd ht (fun z => kt z p l e s m args below meth c H locs ls En W0 WC hS hl) (fun z => kf z p l e s m args below meth c H locs ls En W0 WC hS hl)
theorem V_icmp_lt {x y : Int32} {off : Int} (tgt : Nat) (hd : decode M.2.2.1 pc = .ok (.if_icmp .lt off, 3)) (ht : (pc : Int) + off = (tgt : Int)) (kt : x < y → V X M d cT sT Q tgt lo st S I J k n) (kf : ¬ x < y → V X M d cT sT Q (pc + 3) lo st S I J k n) : V X M d cT sT Q pc lo (.int y :: .int x :: st) S I J k n := by
  intro p l e s m args below meth c H locs ls En W0 WC hS hl
  exact lv_icmp_lt En.1.1 En.1.2.1 hd ht (fun z => kt z p l e s m args below meth c H locs ls En W0 WC hS hl) (fun z => kf z p l e s m args below meth c H locs ls En W0 WC hS hl)
theorem V_icmp_ge {x y : Int32} {off : Int} (tgt : Nat) (hd : decode M.2.2.1 pc = .ok (.if_icmp .ge off, 3)) (ht : (pc : Int) + off = (tgt : Int)) (kt : y ≤ x → V X M d cT sT Q tgt lo st S I J k n) (kf : ¬ y ≤ x → V X M d cT sT Q (pc + 3) lo st S I J k n) : V X M d cT sT Q pc lo (.int y :: .int x :: st) S I J k n := by
  intro p l e s m args below meth c H locs ls En W0 WC hS hl
  exact lv_icmp_ge En.1.1 En.1.2.1 hd ht (fun z => kt z p l e s m args below meth c H locs ls En W0 WC hS hl) (fun z => kf z p l e s m args below meth c H locs ls En W0 WC hS hl)
theorem V_icmp_gt {x y : Int32} {off : Int} (tgt : Nat) (hd : decode M.2.2.1 pc = .ok (.if_icmp .gt off, 3)) (ht : (pc : Int) + off = (tgt : Int)) (kt : y < x → V X M d cT sT Q tgt lo st S I J k n) (kf : ¬ y < x → V X M d cT sT Q (pc + 3) lo st S I J k n) : V X M d cT sT Q pc lo (.int y :: .int x :: st) S I J k n := by
  intro p l e s m args below meth c H locs ls En W0 WC hS hl
  exact lv_icmp_gt En.1.1 En.1.2.1 hd ht (fun z => kt z p l e s m args below meth c H locs ls En W0 WC hS hl) (fun z => kf z p l e s m args below meth c H locs ls En W0 WC hS hl)
theorem V_icmp_le {x y : Int32} {off : Int} (tgt : Nat) (hd : decode M.2.2.1 pc = .ok (.if_icmp .le off, 3)) (ht : (pc : Int) + off = (tgt : Int)) (kt : x ≤ y → V X M d cT sT Q tgt lo st S I J k n) (kf : ¬ x ≤ y → V X M d cT sT Q (pc + 3) lo st S I J k n) : V X M d cT sT Q pc lo (.int y :: .int x :: st) S I J k n := by
  intro p l e s m args below meth c H locs ls En W0 WC hS hl
  exact lv_icmp_le En.1.1 En.1.2.1 hd ht (fun z => kt z p l e s m args below meth c H locs ls En W0 WC hS hl) (fun z => kf z p l e s m args below meth c H locs ls En W0 WC hS hl)
theorem V_if_eq {x : Int32} {off : Int} (tgt : Nat) (hd : decode M.2.2.1 pc = .ok (.ifCond .eq off, 3)) (ht : (pc : Int) + off = (tgt : Int)) (kt : x = 0 → V X M d cT sT Q tgt lo st S I J k n) (kf : ¬ x = 0 → V X M d cT sT Q (pc + 3) lo st S I J k n) : V X M d cT sT Q pc lo (.int x :: st) S I J k n := by
  intro p l e s m args below meth c H locs ls En W0 WC hS hl
  exact lv_if_eq En.1.1 En.1.2.1 hd ht (fun z => kt z p l e s m args below meth c H locs ls En W0 WC hS hl) (fun z => kf z p l e s m args below meth c H locs ls En W0 WC hS hl)
theorem V_if_ne {x : Int32} {off : Int} (tgt : Nat) (hd : decode M.2.2.1 pc = .ok (.ifCond .ne off, 3)) (ht : (pc : Int) + off = (tgt : Int)) (kt : ¬ x = 0 → V X M d cT sT Q tgt lo st S I J k n) (kf : x = 0 → V X M d cT sT Q (pc + 3) lo st S I J k n) : V X M d cT sT Q pc lo (.int x :: st) S I J k n := by
  intro p l e s m args below meth c H locs ls En W0 WC hS hl
  exact lv_if_ne En.1.1 En.1.2.1 hd ht (fun z => kt z p l e s m args below meth c H locs ls En W0 WC hS hl) (fun z => kf z p l e s m args below meth c H locs ls En W0 WC hS hl)
theorem V_if_lt {x : Int32} {off : Int} (tgt : Nat) (hd : decode M.2.2.1 pc = .ok (.ifCond .lt off, 3)) (ht : (pc : Int) + off = (tgt : Int)) (kt : x < 0 → V X M d cT sT Q tgt lo st S I J k n) (kf : ¬ x < 0 → V X M d cT sT Q (pc + 3) lo st S I J k n) : V X M d cT sT Q pc lo (.int x :: st) S I J k n := by
  intro p l e s m args below meth c H locs ls En W0 WC hS hl
  exact lv_if_lt En.1.1 En.1.2.1 hd ht (fun z => kt z p l e s m args below meth c H locs ls En W0 WC hS hl) (fun z => kf z p l e s m args below meth c H locs ls En W0 WC hS hl)
theorem V_if_ge {x : Int32} {off : Int} (tgt : Nat) (hd : decode M.2.2.1 pc = .ok (.ifCond .ge off, 3)) (ht : (pc : Int) + off = (tgt : Int)) (kt : 0 ≤ x → V X M d cT sT Q tgt lo st S I J k n) (kf : ¬ 0 ≤ x → V X M d cT sT Q (pc + 3) lo st S I J k n) : V X M d cT sT Q pc lo (.int x :: st) S I J k n := by
  intro p l e s m args below meth c H locs ls En W0 WC hS hl
  exact lv_if_ge En.1.1 En.1.2.1 hd ht (fun z => kt z p l e s m args below meth c H locs ls En W0 WC hS hl) (fun z => kf z p l e s m args below meth c H locs ls En W0 WC hS hl)
theorem V_if_gt {x : Int32} {off : Int} (tgt : Nat) (hd : decode M.2.2.1 pc = .ok (.ifCond .gt off, 3)) (ht : (pc : Int) + off = (tgt : Int)) (kt : 0 < x → V X M d cT sT Q tgt lo st S I J k n) (kf : ¬ 0 < x → V X M d cT sT Q (pc + 3) lo st S I J k n) : V X M d cT sT Q pc lo (.int x :: st) S I J k n := by
  intro p l e s m args below meth c H locs ls En W0 WC hS hl
  exact lv_if_gt En.1.1 En.1.2.1 hd ht (fun z => kt z p l e s m args below meth c H locs ls En W0 WC hS hl) (fun z => kf z p l e s m args below meth c H locs ls En W0 WC hS hl)
theorem V_if_le {x : Int32} {off : Int} (tgt : Nat) (hd : decode M.2.2.1 pc = .ok (.ifCond .le off, 3)) (ht : (pc : Int) + off = (tgt : Int)) (kt : x ≤ 0 → V X M d cT sT Q tgt lo st S I J k n) (kf : ¬ x ≤ 0 → V X M d cT sT Q (pc + 3) lo st S I J k n) : V X M d cT sT Q pc lo (.int x :: st) S I J k n := by
  intro p l e s m args below meth c H locs ls En W0 WC hS hl
  exact lv_if_le En.1.1 En.1.2.1 hd ht (fun z => kt z p l e s m args below meth c H locs ls En W0 WC hS hl) (fun z => kf z p l e s m args below meth c H locs ls En W0 WC hS hl)
theorem V_goto {off : Int} (tgt : Nat) (hd : decode M.2.2.1 pc = .ok (.goto off, 3)) (ht : (pc : Int) + off = (tgt : Int)) (kk : V X M d cT sT Q tgt lo st S I J k n) : V X M d cT sT Q pc lo st S I J k n := by
  intro p l e s m args below meth c H locs ls En W0 WC hS hl
  exact lv_goto En.1.1 En.1.2.1 hd ht (kk p l e s m args below meth c H locs ls En W0 WC hS hl)
theorem V_ifnull {x : Nat} {off : Int} (hd : decode M.2.2.1 pc = .ok (.ifnull off, 3)) (kk : V X M d cT sT Q (pc + 3) lo st S I J k n) : V X M d cT sT Q pc lo (.ref x :: st) S I J k n := by
  intro p l e s m args below meth c H locs ls En W0 WC hS hl
  exact lv_ifnull En.1.1 En.1.2.1 hd (kk p l e s m args below meth c H locs ls En W0 WC hS hl)
theorem V_ifnonnull {x : Nat} {off : Int} (tgt : Nat) (hd : decode M.2.2.1 pc = .ok (.ifnonnull off, 3)) (ht : (pc : Int) + off = (tgt : Int)) (kk : V X M d cT sT Q tgt lo st S I J k n) : V X M d cT sT Q pc lo (.ref x :: st) S I J k n := by
  intro p l e s m args below meth c H locs ls En W0 WC hS hl
  exact lv_ifnonnull En.1.1 En.1.2.1 hd ht (kk p l e s m args below meth c H locs ls En W0 WC hS hl)
theorem V_ifnullN {off : Int} (tgt : Nat) (hd : decode M.2.2.1 pc = .ok (.ifnull off, 3)) (ht : (pc : Int) + off = (tgt : Int)) (kk : V X M d cT sT Q tgt lo st S I J k n) : V X M d cT sT Q pc lo (.null :: st) S I J k n := by
  intro p l e s m args below meth c H locs ls En W0 WC hS hl
  exact lv_ifnullN En.1.1 En.1.2.1 hd ht (kk p l e s m args below meth c H locs ls En W0 WC hS hl)
theorem V_ifnonnullN {off : Int} (hd : decode M.2.2.1 pc = .ok (.ifnonnull off, 3)) (kk : V X M d cT sT Q (pc + 3) lo st S I J k n) : V X M d cT sT Q pc lo (.null :: st) S I J k n := by
  intro p l e s m args below meth c H locs ls En W0 WC hS hl
  exact lv_ifnonnullN En.1.1 En.1.2.1 hd (kk p l e s m args below meth c H locs ls En W0 WC hS hl)
theorem V_tableIn {dflt lw hw : Int} {offs : Array Int} {len : Nat} {x : Int32} {off : Int} (tgt : Nat) (hd : decode M.2.2.1 pc = .ok (.tableswitch dflt lw hw offs, len)) (h1 : ¬ x.toInt < lw) (h2 : ¬ hw < x.toInt) (ho : offs[(x.toInt - lw).toNat]? = some off) (ht : (pc : Int) + off = (tgt : Int)) (kk : V X M d cT sT Q tgt lo st S I J k n) : V X M d cT sT Q pc lo (.int x :: st) S I J k n := by
  intro p l e s m args below meth c H locs ls En W0 WC hS hl
  exact lv_tableIn En.1.1 En.1.2.1 hd h1 h2 ho ht (kk p l e s m args below meth c H locs ls En W0 WC hS hl)
theorem V_tableOut {dflt lw hw : Int} {offs : Array Int} {len : Nat} {x : Int32} (tgt : Nat) (hd : decode M.2.2.1 pc = .ok (.tableswitch dflt lw hw offs, len)) (h : x.toInt < lw ∨ hw < x.toInt) (ht : (pc : Int) + dflt = (tgt : Int)) (kk : V X M d cT sT Q tgt lo st S I J k n) : V X M d cT sT Q pc lo (.int x :: st) S I J k n := by
  intro p l e s m args below meth c H locs ls En W0 WC hS hl
  exact lv_tableOut En.1.1 En.1.2.1 hd h ht (kk p l e s m args below meth c H locs ls En W0 WC hS hl)
theorem V_lookup {dflt : Int} {ps : Array (Int × Int)} {len : Nat} {x : Int32} {off : Int} (tgt : Nat) (hd : decode M.2.2.1 pc = .ok (.lookupswitch dflt ps, len)) (hp : (ps.toList.zip (ps.toList.drop 1)).all (fun (a, next) => a.1 < next.1) = true) (ho : Op.lookupswitch.offset ps.toList dflt x.toInt = off) (ht : (pc : Int) + off = (tgt : Int)) (kk : V X M d cT sT Q tgt lo st S I J k n) : V X M d cT sT Q pc lo (.int x :: st) S I J k n := by
  intro p l e s m args below meth c H locs ls En W0 WC hS hl
  exact lv_lookup En.1.1 En.1.2.1 hd hp ho ht (kk p l e s m args below meth c H locs ls En W0 WC hS hl)
theorem V_sub {lo2 : List (Nat × Value)} (ks : List Nat) (h : lv_pick lo ks = lo2) (kk : V X M d cT sT Q pc lo2 st S I J k n) : V X M d cT sT Q pc lo st S I J k n := by
  intro p l e s m args below meth c H locs ls En W0 WC hS hl
  exact kk p l e s m args below meth c H locs ls En W0 WC hS (q_lc_sub hl ks h)
theorem V_widen {k2 n2 : Nat} (hk : k ≤ k2) (hn : n ≤ n2) (kk : V X M d cT sT Q pc lo st S I J k2 n2) : V X M d cT sT Q pc lo st S I J k n := by
  intro p l e s m args below meth c H locs ls En W0 WC hS hl
  exact W.widen hk hn (kk p l e s m args below meth c H locs ls En W0 WC hS hl)
theorem V_post {Q2 : QP} (h : ∀ o S I J, Q o S I J → Q2 o S I J) (kk : V X M d cT sT Q pc lo st S I J k n) : V X M d cT sT Q2 pc lo st S I J k n := by
  intro p l e s m args below meth c H locs ls En W0 WC hS hl
  intro T hT XX
  obtain ⟨t, a1, o, b1, b2, b3⟩ := kk p l e s m args below meth c H locs ls En W0 WC hS hl T hT XX
  refine ⟨t, a1, o, b1, b2, ?_⟩
  rcases b3 with ⟨⟨v, S2, I2, J2, h1, h2, h3⟩, h4⟩ | ⟨q, h0, E, ce, L, ⟨S2, I2, J2, h2, h3⟩, h4⟩
  · exact Or.inl ⟨⟨v, S2, I2, J2, h1, h _ _ _ _ h2, h3⟩, h4⟩
  · exact Or.inr ⟨q, h0, E, ce, L, ⟨S2, I2, J2, h _ _ _ _ h2, h3⟩, h4⟩

end QV
