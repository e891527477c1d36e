/-! throws, catches, new cells, Math -/
def q_nms : List String := ["java/lang/RuntimeException", "java/lang/Exception"]
/-- the thrown classes: class, its place, its constructor's place -/
def q_thr : List (String × Nat × Nat) := [("java/lang/IllegalArgumentException", 62, 66), ("java/lang/IllegalStateException", 73, 77), ("java/lang/IndexOutOfBoundsException", 82, 86)]
theorem q_thr_at : ∀ q ∈ q_thr, (∀ w ∈ vx_atS RX7 q.2.2 q.1 q_nms, w ∈ q_TB ∨ w = .castable q.1 q.1 ∨ ∃ x ∈ q_dec, w = .declares x) ∧ (∀ w ∈ Cond.classLink RX7 q.2.1 q.1 :: Cond.initialized q.1 :: vx_atS RX7 q.2.2 q.1 q_nms, vx_ot w = true) ∧ Cond.classLink RX7 q.2.1 q.1 ∈ q_TB ∧ Cond.initialized q.1 ∈ q_TB ∧ Bundle.fit q.1 = true ∧ q.1 ∈ q_exs := by decide +kernel
theorem q_nms_fit : ∀ n ∈ q_nms, Bundle.fit n = true := by decide +kernel
section QT
variable {X : QX} {M : MD} {d cT sT : Nat} {Q : QP} {pc : Nat} {lo : List (Nat × Value)} {st : List Value} {S : QS} {I : QI} {J : QJ} {k n : Nat}
theorem V_throw {E text : String} {ik is ic : Nat} (d0 : decode M.2.2.1 pc = .ok (.new ik, 3)) (d3 : decode M.2.2.1 (pc + 3) = .ok (.dup, 1)) (d4 : decode M.2.2.1 (pc + 4) = .ok (.ldc is, 2)) (d6 : decode M.2.2.1 (pc + 6) = .ok (.invokespecial ic, 3)) (d9 : decode M.2.2.1 (pc + 9) = .ok (.athrow, 1))
    (hown : M.1 = RX7) (hE : (E, ik, ic) ∈ q_thr) (hs : (is, text) ∈ q_strs) (hh : M.2.2.2.2.2 = []) (hst : (st.map fun v => v.category).sum ≤ 8) (hc : k + 1 ≤ cT) (hsl : n + 6 ≤ sT) (hQ : Q (.inr E) S I J) : V X M d cT sT Q pc lo st S I J k n := by
  intro p l e s m args below meth c H locs ls En W0 WC hS hl
  obtain ⟨a1, a2, a3, a4, a5, a6⟩ := q_thr_at _ hE
  have hts := En.1.2.2.2.2
  obtain ⟨sa, hsa⟩ := W0.2.2.2.2.2.2.1 _ hs
  have hcs := W0.2.2.2.2.2.2.2.2.1 E a6
  have hm : s.vm.findClass RX7 = some m.cls := by rw [← hown]; exact En.1.2.2.2.1
  have hlk := En.2.2.1
  refine vx_throwS (names := q_nms) (text := text) (sa := sa) (A := q_A X) En.1.1 En.1.2.1 En.2.2.2.2.2 hm a5 q_nms_fit (hts _ a3) (hts _ a4) hsa (fun w hw => ?_) a2 W0.2.2.2.2.1 W0.2.2.2.2.2.1 hS (hl.1.trans En.1.2.2.1.symm) d0 d3 d4 d6 d9 (fun x hx => ?_) ?_ ?_ hc hsl hlk (fun t hA hz hk => ?_) (q_fr hS) hc hsl
  · rcases a1 w hw with h | rfl | ⟨x, hx, rfl⟩
    · exact hts _ h
    · exact va_Nw.use rfl hcs
    · exact va_Nw.use rfl (W0.2.2.2.2.2.2.2.2.2.2.2 x hx)
  · rw [En.2.2.2.1, hh] at hx
    cases hx
  · show 2 + 3 < d + 8
    omega
  · show _ + (13 * (2 + 1) + 43) ≤ 64 * d + 128
    rw [q_sum]
    omega
  · refine ⟨S, I, J, hQ, ⟨va_P.kept WC.1 (fun j q hq => hk q.1 ((WC.1 j q hq).lt)), WC.2⟩, Nat.le_trans hS.1 hz, fun q h1 h2 => ?_⟩
    rw [hk q (Nat.lt_of_lt_of_le h1 hS.1)]
    exact hS.2.1 q h1 h2
/-- caught by a row of the table, and laid into a local -/
theorem VT_catch {E : String} {i ln : Nat} {ins : Instr} (pre : List ExceptionTableEntry) (x : ExceptionTableEntry) (suf : List ExceptionTableEntry) (hsplit : tableOf M.2.2.2.2.2 = pre ++ x :: suf) (hE : E ∈ q_exs)
    (hpass : ∀ z ∈ pre, covers z pc = false ∨ (z.catchType ≠ 0 ∧ ∃ F, F ∈ q_exs ∧ E ≠ F ∧ Cond.classLink M.1 z.catchType F ∈ q_TB)) (hx : covers x pc = true) (h0 : x.catchType ≠ 0) (hlink : Cond.classLink M.1 x.catchType E ∈ q_TB)
    (hd : decode M.2.2.1 x.handlerPc = .ok (ins, ln)) (hi : (ins = .astore i ∧ ln = 2) ∨ (∃ j : Fin 4, ins = .astore_n j ∧ (j : Nat) = i ∧ ln = 1)) (hn : i < M.2.2.2.1) {lo2 : List (Nat × Value)} (hq : lo.filter (fun q => !(q.1 == i) && !(q.1 + 1 == i && q.2.category == 2)) = lo2)
    (kk : V X M d cT sT Q (x.handlerPc + ln) lo2 [] S I J k n) : VT X M d cT sT Q pc lo E S I J k n := by
  intro p l e s m args below meth c H locs ls rest ce q9 En W0 WC hS hl hce hcv hcl
  have hts := En.1.2.2.2.2
  refine vx_catch En.1.2.2.2.1 pre x suf (En.2.2.2.1.trans hsplit) (fun z hz => ?_) hx h0 (hts _ hlink) (va_Nw.use rfl (W0.2.2.2.2.2.2.2.2.1 E hE)) hce hcv hcl ?_
  · rcases hpass z hz with h | ⟨h1, F, h2, h3, h4⟩
    · exact Or.inl h
    · exact Or.inr ⟨h1, F, hts _ h4, W0.2.2.2.2.2.2.2.2.2.1 E hE F h2 h3⟩
  · have hfin : ∀ ls2 : Array Slot, lv_has ls2 M.2.2.2.1 ((i, Value.ref q9) :: (q_lc S.1 lo).filter (fun q => !(q.1 == i) && !(q.1 + 1 == i && q.2.category == 2))) → lv_has ls2 M.2.2.2.1 (q_lc S.1 lo2) := by
      intro ls2 h2
      refine ⟨h2.1, h2.2.1, fun q hq2 => h2.2.2 q (List.mem_cons_of_mem _ ?_)⟩
      subst hq
      have h9 := q_lc_set S.1 lo i (.ref 0)
      unfold q_set at h9
      unfold q_lc at h9 hq2 ⊢
      rw [List.map_cons] at h9
      rw [← (List.cons.inj h9).2]
      exact hq2
    rcases hi with ⟨rfl, rfl⟩ | ⟨j, rfl, hj, rfl⟩
    · exact lv_astore En.1.1 En.1.2.1 hd hl hn rfl (fun ls2 h2 => kk p l e s m args below meth c H locs ls2 En W0 WC hS (hfin ls2 h2))
    · exact lv_astore_n En.1.1 En.1.2.1 hd hj hl hn rfl (fun ls2 h2 => kk p l e s m args below meth c H locs ls2 En W0 WC hS (hfin ls2 h2))
theorem V_objInit {q idx : Nat} (hd : decode M.2.2.1 pc = .ok (.invokespecial idx, 3)) (hlk : Cond.methodLink M.1 idx Lib.objectInit ∈ q_TB) (hin : Cond.instanceMethod Lib.objectInit ∈ q_TB) (hco : Cond.code Lib.objectInit ⟨#[0xb1]⟩ 1 none ∈ q_TB) (hst : (st.map fun v => v.category).sum ≤ 8) (kk : V X M d cT sT Q (pc + 3) lo st S I J k n) : V X M d cT sT Q pc lo (.ref q :: st) S I J k n := by
  intro p l e s m args below meth c H locs ls En W0 WC hS hl
  have hts := En.1.2.2.2.2
  refine W.objInit (rest := st.map (q_cv S.1)) En.1.1 En.1.2.1 En.1.2.2.2.1 (hts _ hlk) (hts _ hin) (hts _ hco) rfl (hl.1.trans En.1.2.2.1.symm) rfl hd ?_ ?_ (kk p l e s m args below meth c H locs ls En W0 WC hS hl)
  · show 1 ≤ d + 8
    omega
  · show 2 * 0 + _ + 12 ≤ 64 * d + 128
    rw [q_sum]
    omega
theorem V_max {idx : Nat} {x y : Int32} (hd : decode M.2.2.1 pc = .ok (.invokestatic idx, 3)) (hlk : Cond.methodLink M.1 idx Lib.Math.max.name ∈ q_TB) (h2 : Cond.static Lib.Math.max.name ∈ q_TB) (h3 : Cond.initialized "java/lang/Math" ∈ q_TB) (h4 : Cond.code Lib.Math.max.name Lib.Math.max.code 2 (some .int) ∈ q_TB) (hst : (st.map fun v => v.category).sum ≤ 8) (hc : k ≤ cT) (hs : n ≤ sT) (kk : V X M d cT sT Q (pc + 3) lo (.int (if x < y then y else x) :: st) S I J k n) : V X M d cT sT Q pc lo (.int y :: .int x :: st) S I J k n := by
  intro p l e s m args below meth c H locs ls En W0 WC hS hl
  have hts := En.1.2.2.2.2
  refine va_mmax (rest := st.map (q_cv S.1)) En.1.1 En.1.2.1 (En.1.2.2.1.trans hl.1.symm) En.1.2.2.2.1 (hts _ hlk) (hts _ h2) (hts _ h3) (hts _ h4) ?_ ?_ hc hs hd (kk p l e s m args below meth c H locs ls En W0 WC hS hl)
  · show 1 ≤ d + 8
    omega
  · show _ + 13 ≤ 64 * d + 128
    rw [q_sum]
    omega
theorem V_min {idx : Nat} {x y : Int32} (hd : decode M.2.2.1 pc = .ok (.invokestatic idx, 3)) (hlk : Cond.methodLink M.1 idx Lib.Math.min.name ∈ q_TB) (h2 : Cond.static Lib.Math.min.name ∈ q_TB) (h3 : Cond.initialized "java/lang/Math" ∈ q_TB) (h4 : Cond.code Lib.Math.min.name Lib.Math.min.code 2 (some .int) ∈ q_TB) (hst : (st.map fun v => v.category).sum ≤ 8) (hc : k ≤ cT) (hs : n ≤ sT) (kk : V X M d cT sT Q (pc + 3) lo (.int (if y < x then y else x) :: st) S I J k n) : V X M d cT sT Q pc lo (.int y :: .int x :: st) S I J k n := by
  intro p l e s m args below meth c H locs ls En W0 WC hS hl
  have hts := En.1.2.2.2.2
  refine va_mmin (rest := st.map (q_cv S.1)) En.1.1 En.1.2.1 (En.1.2.2.1.trans hl.1.symm) En.1.2.2.2.1 (hts _ hlk) (hts _ h2) (hts _ h3) (hts _ h4) ?_ ?_ hc hs hd (kk p l e s m args below meth c H locs ls En W0 WC hS hl)
  · show 1 ≤ d + 8
    omega
  · show _ + 13 ≤ 64 * d + 128
    rw [q_sum]
    omega
/-- a new cell: its address, kind and size -/
def q_nS (S : QS) (a ci z : Nat) : QS := (fun j => if j = S.2.1 then a else S.1 j, S.2.1 + 1, fun j => if j = S.2.1 then ci else S.2.2.1 j, fun j => if j = S.2.1 then z else S.2.2.2.1 j, fun j => if j = S.2.1 then (fun _ => none) else S.2.2.2.2 j)
def q_rw {α : Type} (f : Nat → Nat → α) (b : Nat) (g : Nat → α) : Nat → Nat → α := fun j => if j = b then g else f j
/-- references name cells that there are -/
def q_cl (S : QS) : Prop := ∀ j i r, j < S.2.1 → S.2.2.2.2 j i = some r → r < S.2.1
theorem q_nS_ad {S : QS} {a ci z : Nat} : ∀ r, r < S.2.1 → (q_nS S a ci z).1 r = S.1 r := fun r h => if_neg (Nat.ne_of_lt h)
theorem q_nS_ad2 {S : QS} {a ci z : Nat} (hb : S.2.1 < 900000) : ∀ r, r < S.2.1 ∨ 900000 ≤ r → (q_nS S a ci z).1 r = S.1 r := fun r h => if_neg (by omega)
theorem q_nS_old {C : QC} {S : QS} {I I' : QI} {J J' : QJ} {a ci z : Nat} (hcl : q_cl S) (hI : ∀ j, j < S.2.1 → I' j = I j) (hJ : ∀ j, j < S.2.1 → J' j = J j) : ∀ j, j < S.2.1 → q_cell C (q_nS S a ci z) I' J' j = q_cell C S I J j := by
  intro j hj
  have hne : j ≠ S.2.1 := Nat.ne_of_lt hj
  exact q_cell_cong (fun i r h => if_neg (Nat.ne_of_lt (hcl j i r hj h))) (if_neg hne) (if_neg hne) (if_neg hne) (hI j hj) (hJ j hj)
theorem q_rw_lt {α : Type} {f : Nat → Nat → α} {b : Nat} {g : Nat → α} : ∀ j, j < b → q_rw f b g j = f j := fun j h => if_neg (Nat.ne_of_lt h)
theorem q_rw_self {α : Type} {f : Nat → Nat → α} {b : Nat} {g : Nat → α} : q_rw f b g b = g := if_pos rfl
theorem q_dv : ∀ ci, ci < 8 → ∀ j, j < q_nf ci → defaultValue (q_ty ci j) = if q_ir (q_ty ci j) = true then .null else .int 0 := q_n9 (by decide +kernel) (by decide +kernel) (by decide +kernel) (by decide +kernel) (by decide +kernel) (by decide +kernel) (by decide +kernel) (by decide +kernel)
theorem V_new {ci idx : Nat} (hd : decode M.2.2.1 pc = .ok (.new idx, 3)) (hci : ci < 8) (hlk : Cond.classLink M.1 idx (q_Cn ci) ∈ q_TB) (hins : Cond.instantiable (q_Cn ci) (q_nf ci) ∈ q_TB) (hini : Cond.initialized (q_Cn ci) ∈ q_TB) (hb9 : S.2.1 < 900000) (hcl : q_cl S) (hbl : q_vb S.2.1 (lo.map (·.2))) (hbs : q_vb S.2.1 st) (hc : k + 1 ≤ cT) (hs : n + q_nf ci ≤ sT)
    (kk : ∀ a : Nat, V X M d cT sT Q (pc + 3) lo (.ref S.2.1 :: st) (q_nS S a ci 0) (q_rw I S.2.1 (fun _ => 0)) J (k + 1) (n + q_nf ci)) : V X M d cT sT Q pc lo st S I J k n := by
  intro p l e s m args below meth c H locs ls En W0 WC hS hl
  have hts := En.1.2.2.2.2
  have hA : ∀ q, s.heap.size ≤ q → q_A X q := fun q h => Nat.le_trans W0.2.2.1 h
  refine va_new (ci := ci) (fs := (List.range (q_nf ci)).map (fun j => if q_ir (q_ty ci j) = true then Value.null else .int 0)) En.1.1 En.1.2.1 hts (q_uw ci hci) (q_ty ci) (q_pf ci hci) En.1.2.2.2.1 (hts _ hlk) (hts _ hins) (hts _ hini) W0.2.2.2.1 WC.1 WC.2 hS hA (q_vw ci hci) (fun j hj => ?_) hc hs hd (fun a H1 hP1 hD1 hS1 => ?_)
  · rw [q_dv ci hci j hj]
    unfold vp_V
    rw [List.getD_eq_getElem?_getD, List.getElem?_map, List.getElem?_range hj]
    rfl
  · have hK9 : (q_nS S a ci 0).2.2.1 S.2.1 = ci := if_pos rfl
    have hE9 : q_lay X.1 S I J ++ [(a, .inr (ci, (List.range (q_nf ci)).map (fun j => if q_ir (q_ty ci j) = true then Value.null else .int 0)))] = q_lay X.1 (q_nS S a ci 0) (q_rw I S.2.1 (fun _ => 0)) J := by
      refine q_lay_push (S' := q_nS S a ci 0) rfl q_nS_ad (if_pos rfl) ?_ (q_nS_old hcl q_rw_lt (fun _ _ => rfl))
      rw [q_cell_o hK9 hci]
      congr 2
      apply List.map_congr_left
      intro j _
      cases q_ir (q_ty ci j)
      · show Value.int (q_rw I S.2.1 (fun _ => 0) S.2.1 j) = _
        rw [q_rw_self]
        rfl
      · show va_rf (((q_nS S a ci 0).2.2.2.2 S.2.1 j).map _) = _
        have : (q_nS S a ci 0).2.2.2.2 S.2.1 = fun _ => none := if_pos rfl
        rw [this]
        rfl
    rw [hE9] at hP1 hD1
    have hv := kk a p l e s m args below meth c H1 locs ls En W0 ⟨hP1, hD1⟩ hS1 (by rw [q_lb_cv (q_nS_ad2 hb9) hbl]; exact hl)
    rw [List.map_cons, q_vb_cv (q_nS_ad2 hb9) hbs] at hv
    have ha : q_cv (q_nS S a ci 0).1 (.ref S.2.1) = .ref a := congrArg Value.ref (if_pos rfl)
    rw [ha] at hv
    exact hv
theorem q_tyeq {D : va_G} {cl : List vw_C} {tys : List (ClassId × FieldType)} {U : State} {i j : Nat} {c1 c2 : ClassId} {ty : FieldType} (hK : va_K D cl tys U) (h1 : tys[i]? = some (c1, ty)) (h2 : tys[j]? = some (c2, ty)) : c1 = c2 := by
  have a1 := (hK.2 i _ h1).2
  have a2 := (hK.2 j _ h2).2
  cases ty with
  | object C =>
    obtain ⟨k1, b1, x1, x2, x3, x4⟩ := a1
    obtain ⟨k2, b2, y1, y2, y3, y4⟩ := a2
    exact Option.some.inj (x4.symm.trans y4)
  | _ => exact Option.some.inj (a1.symm.trans a2)
theorem V_newI {x : Int32} {z : Nat} (hd : decode M.2.2.1 pc = .ok (.newarray .int, 2)) (hac : Cond.arrayClass .int ∈ q_TB) (hx : ¬ x < 0) (hz : x.toNatClampNeg = z) (hby : z * 4 ≤ 536870912) (hb9 : S.2.1 < 900000) (hcl : q_cl S) (hbl : q_vb S.2.1 (lo.map (·.2))) (hbs : q_vb S.2.1 st) (hc : k + 1 ≤ cT) (hs : n + z ≤ sT)
    (kk : ∀ a : Nat, V X M d cT sT Q (pc + 2) lo (.ref S.2.1 :: st) (q_nS S a 9 z) (q_rw I S.2.1 (fun _ => 0)) J (k + 1) (n + z)) : V X M d cT sT Q pc lo (.int x :: st) S I J k n := by
  intro p l e s m args below meth c H locs ls En W0 WC hS hl
  have hts := En.1.2.2.2.2
  have hA : ∀ q, s.heap.size ≤ q → q_A X q := fun q h => Nat.le_trans W0.2.2.1 h
  refine va_newa (atype := .int) (ty := .int) (N' := z) (a0 := (z, .inl (fun _ => 0))) En.1.1 En.1.2.1 (hts _ hac) rfl W0.2.2.2.1 WC.1 WC.2 hS hA (fun _ => rfl) hx hz hby hc hs hd (fun a cA H1 hK1 hP1 hD1 hS1 => ?_)
  have hcA : cA = X.1.2.2.1 := q_tyeq (i := 3) (j := 0) hK1 rfl rfl
  subst hcA
  have hK9 : (q_nS S a 9 z).2.2.1 S.2.1 = 9 := if_pos rfl
  have hz9 : (q_nS S a 9 z).2.2.2.1 S.2.1 = z := if_pos rfl
  have hE9 : q_lay X.1 S I J ++ [(a, .inl (X.1.2.2.1, z, .inl (fun _ => 0)))] = q_lay X.1 (q_nS S a 9 z) (q_rw I S.2.1 (fun _ => 0)) J :=
    q_lay_push (S' := q_nS S a 9 z) rfl q_nS_ad (if_pos rfl) (by rw [q_cell_i hK9, hz9, q_rw_self]) (q_nS_old hcl q_rw_lt (fun _ _ => rfl))
  rw [hE9] at hP1 hD1
  have hv := kk a p l e s m args below meth c H1 locs ls En W0 ⟨hP1, hD1⟩ hS1 (by rw [q_lb_cv (q_nS_ad2 hb9) hbl]; exact hl)
  rw [List.map_cons, q_vb_cv (q_nS_ad2 hb9) hbs] at hv
  have ha : q_cv (q_nS S a 9 z).1 (.ref S.2.1) = .ref a := congrArg Value.ref (if_pos rfl)
  rw [ha] at hv
  exact hv
theorem V_newZ {x : Int32} {z : Nat} (hd : decode M.2.2.1 pc = .ok (.newarray .boolean, 2)) (hac : Cond.arrayClass .boolean ∈ q_TB) (hx : ¬ x < 0) (hz : x.toNatClampNeg = z) (hby : z * 1 ≤ 536870912) (hb9 : S.2.1 < 900000) (hcl : q_cl S) (hbl : q_vb S.2.1 (lo.map (·.2))) (hbs : q_vb S.2.1 st) (hc : k + 1 ≤ cT) (hs : n + z ≤ sT)
    (kk : ∀ a : Nat, V X M d cT sT Q (pc + 2) lo (.ref S.2.1 :: st) (q_nS S a 11 z) (q_rw I S.2.1 (fun _ => 0)) J (k + 1) (n + z)) : V X M d cT sT Q pc lo (.int x :: st) S I J k n := by
  intro p l e s m args below meth c H locs ls En W0 WC hS hl
  have hts := En.1.2.2.2.2
  have hA : ∀ q, s.heap.size ≤ q → q_A X q := fun q h => Nat.le_trans W0.2.2.1 h
  refine va_newa (atype := .boolean) (ty := .boolean) (N' := z) (a0 := (z, .inl (fun _ => 0))) En.1.1 En.1.2.1 (hts _ hac) rfl W0.2.2.2.1 WC.1 WC.2 hS hA (fun _ => rfl) hx hz hby hc hs hd (fun a cA H1 hK1 hP1 hD1 hS1 => ?_)
  have hcA : cA = X.1.2.2.2.2.1 := q_tyeq (i := 3) (j := 1) hK1 rfl rfl
  subst hcA
  have hK9 : (q_nS S a 11 z).2.2.1 S.2.1 = 11 := if_pos rfl
  have hz9 : (q_nS S a 11 z).2.2.2.1 S.2.1 = z := if_pos rfl
  have hE9 : q_lay X.1 S I J ++ [(a, .inl (X.1.2.2.2.2.1, z, .inl (fun _ => 0)))] = q_lay X.1 (q_nS S a 11 z) (q_rw I S.2.1 (fun _ => 0)) J :=
    q_lay_push (S' := q_nS S a 11 z) rfl q_nS_ad (if_pos rfl) (by rw [q_cell_z hK9, hz9, q_rw_self]) (q_nS_old hcl q_rw_lt (fun _ _ => rfl))
  rw [hE9] at hP1 hD1
  have hv := kk a p l e s m args below meth c H1 locs ls En W0 ⟨hP1, hD1⟩ hS1 (by rw [q_lb_cv (q_nS_ad2 hb9) hbl]; exact hl)
  rw [List.map_cons, q_vb_cv (q_nS_ad2 hb9) hbs] at hv
  have ha : q_cv (q_nS S a 11 z).1 (.ref S.2.1) = .ref a := congrArg Value.ref (if_pos rfl)
  rw [ha] at hv
  exact hv
theorem V_newT {x : Int32} {z idx : Nat} (hd : decode M.2.2.1 pc = .ok (.anewarray idx, 3)) (hlk : Cond.classLink M.1 idx RX5 ∈ q_TB) (hx : ¬ x < 0) (hz : x.toNatClampNeg = z) (hby : z * 4 ≤ 536870912) (hb9 : S.2.1 < 900000) (hcl : q_cl S) (hbl : q_vb S.2.1 (lo.map (·.2))) (hbs : q_vb S.2.1 st) (hc : k + 1 ≤ cT) (hs : n + z ≤ sT)
    (kk : ∀ a : Nat, V X M d cT sT Q (pc + 3) lo (.ref S.2.1 :: st) (q_nS S a 12 z) I J (k + 1) (n + z)) : V X M d cT sT Q pc lo (.int x :: st) S I J k n := by
  intro p l e s m args below meth c H locs ls En W0 WC hS hl
  have hts := En.1.2.2.2.2
  have hA : ∀ q, s.heap.size ≤ q → q_A X q := fun q h => Nat.le_trans W0.2.2.1 h
  refine va_newq (C := RX5) (N' := z) En.1.1 En.1.2.1 En.1.2.2.2.1 (hts _ hlk) W0.2.2.2.2.2.2.2.2.2.2.1 W0.2.2.2.1 WC.1 WC.2 hS hA hx hz hby hc hs hd (fun a cA H1 hK1 hP1 hD1 hS1 => ?_)
  have hcA : cA = X.1.2.2.2.2.2 := q_tyeq (i := 3) (j := 2) hK1 rfl rfl
  subst hcA
  have hK9 : (q_nS S a 12 z).2.2.1 S.2.1 = 12 := if_pos rfl
  have hz9 : (q_nS S a 12 z).2.2.2.1 S.2.1 = z := if_pos rfl
  have hR9 : (q_nS S a 12 z).2.2.2.2 S.2.1 = fun _ => none := if_pos rfl
  have hE9 : q_lay X.1 S I J ++ [(a, .inl (X.1.2.2.2.2.2, z, .inr (.inr (.inr (.inr (fun _ => none))))))] = q_lay X.1 (q_nS S a 12 z) I J :=
    q_lay_push (S' := q_nS S a 12 z) rfl q_nS_ad (if_pos rfl) (by rw [q_cell_t hK9, hz9, hR9]; rfl) (q_nS_old hcl (fun _ _ => rfl) (fun _ _ => rfl))
  rw [hE9] at hP1 hD1
  have hv := kk a p l e s m args below meth c H1 locs ls En W0 ⟨hP1, hD1⟩ hS1 (by rw [q_lb_cv (q_nS_ad2 hb9) hbl]; exact hl)
  rw [List.map_cons, q_vb_cv (q_nS_ad2 hb9) hbs] at hv
  have ha : q_cv (q_nS S a 12 z).1 (.ref S.2.1) = .ref a := congrArg Value.ref (if_pos rfl)
  rw [ha] at hv
  exact hv
theorem V_aast {q r : Nat} {i : Int32} (hd : decode M.2.2.1 pc = .ok (.aastore, 1)) (hq : q < S.2.1) (hk : S.2.2.1 q = 12) (hr : r < S.2.1) (hrk : S.2.2.1 r = 5) (hi : vp_in i (S.2.2.2.1 q)) (kk : V X M d cT sT Q (pc + 1) lo st (q_sR S (q_u2 S.2.2.2.2 q i.toNatClampNeg (some r))) I J k n) : V X M d cT sT Q pc lo (.ref r :: .int i :: .ref q :: st) S I J k n := by
  intro p l e s m args below meth c H locs ls En W0 WC hS hl
  refine va_astq (r := (RX5, TX5, 4)) En.1.1 En.1.2.1 W0.2.2.2.1 WC.1 WC.2 hS q 2 r 5 ((q_lay_at hq).trans (by rw [q_cell_t hk])) rfl (q_WC.obj hr hrk (by decide)) rfl hi hd (fun H1 locs1 hP1 hD1 hS1 => ?_)
  have hE9 : (q_lay X.1 S I J).set q (S.1 q, .inl (X.1.2.2.2.2.2, S.2.2.2.1 q, .inr (.inr (.inr (.inr (va_up (fun j => (S.2.2.2.2 q j).map S.1) i.toNatClampNeg (some (S.1 r)))))))) = q_lay X.1 (q_sR S (q_u2 S.2.2.2.2 q i.toNatClampNeg (some r))) I J := by
    refine q_lay_set (S' := q_sR S (q_u2 S.2.2.2.2 q i.toNatClampNeg (some r))) hq rfl rfl ?_ (fun j hj => q_cell_cong (S' := q_sR S (q_u2 S.2.2.2.2 q i.toNatClampNeg (some r))) (fun _ _ _ => rfl) rfl rfl (q_u2_b _ _ _ hj) rfl rfl)
    rw [q_cell_t (S := q_sR S (q_u2 S.2.2.2.2 q i.toNatClampNeg (some r))) hk]
    congr 7
    funext j
    show ((q_u2 S.2.2.2.2 q i.toNatClampNeg (some r)) q j).map S.1 = va_up _ _ _ j
    by_cases hj : j = i.toNatClampNeg
    · subst hj
      rw [q_u2_s, va_up_self]
      rfl
    · rw [q_u2_j _ _ _ hj]
      unfold va_up
      rw [if_neg hj]
  rw [hE9] at hP1 hD1
  exact kk p l e s m args below meth c H1 locs1 ls En W0 ⟨hP1, hD1⟩ hS1 hl
end QT
