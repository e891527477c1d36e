/-! fields, arrays, calls, ends -/
/-- what a method's tables say of it, with n parameters -/
def q_ok (M : MD) (n : Nat) : Prop := q_wd M ∈ q_TB ∧ plainName M.2.1.cls = true ∧ (M.2.1.cls ≠ "java/lang/invoke/MethodHandle" ∧ M.2.1.cls ≠ "java/lang/invoke/VarHandle" ∧ (parseMethodDescriptor M.2.1.desc).map (fun d => d.parameters.length) = some n) ∧ M.2.2.2.1 ≤ 45 ∧ Cond.initialized M.2.1.cls ∈ q_TB
def q_Cn (ci : Nat) : String := match ci with
  | 0 => RX0
  | 1 => RX1
  | 2 => RX2
  | 3 => RX3
  | 4 => RX4
  | 5 => RX5
  | 6 => RX6
  | 7 => RX7
  | _ => RX8
def q_T (ci : Nat) : u_T := match ci with
  | 0 => TX0
  | 1 => TX1
  | 2 => TX2
  | 3 => TX3
  | 4 => TX4
  | 5 => TX5
  | 6 => TX6
  | 7 => TX7
  | _ => TX8
theorem q_n9 {P : Nat → Prop} (h0 : P 0) (h1 : P 1) (h2 : P 2) (h3 : P 3) (h4 : P 4) (h5 : P 5) (h6 : P 6) (h7 : P 7) : ∀ ci, ci < 8 → P ci := fun ci h => by
  rcases (show ci = 0 ∨ ci = 1 ∨ ci = 2 ∨ ci = 3 ∨ ci = 4 ∨ ci = 5 ∨ ci = 6 ∨ ci = 7 by omega) with rfl | rfl | rfl | rfl | rfl | rfl | rfl | rfl <;> assumption
theorem q_vw : ∀ ci, ci < 8 → vwCl[ci]? = some (q_Cn ci, q_T ci, q_nf ci) := q_n9 rfl rfl rfl rfl rfl rfl rfl rfl
theorem q_pf : ∀ ci, ci < 8 → ∀ j, j < q_nf ci → parseFieldDescriptor (q_T ci j).2.2.1 = some (q_ty ci j) := q_n9 tyX0_ok tyX1_ok tyX2_ok tyX3_ok tyX4_ok tyX5_ok tyX6_ok tyX7_ok
theorem q_nm : ∀ ci, ci < 8 → ∀ a, a < q_nf ci → ∀ b, b < q_nf ci → a ≠ b → (q_T ci a).2.1 ≠ (q_T ci b).2.1 := q_n9 nmX0 nmX1 nmX2 nmX3 nmX4 nmX5 nmX6 nmX7
set_option maxRecDepth 100000 in
theorem q_uw : ∀ ci, ci < 8 → ∀ w ∈ u_ws (q_Cn ci) (q_T ci) (q_nf ci), w ∈ q_TB := q_n9 (by decide +kernel) (by decide +kernel) (by decide +kernel) (by decide +kernel) (by decide +kernel) (by decide +kernel) (by decide +kernel) (by decide +kernel)
def q_fl (own : String) (idx ci j : Nat) : Prop := ci < 8 ∧ j < q_nf ci ∧ Cond.fieldLink own idx (q_T ci j).1 (q_T ci j).2.1 (q_T ci j).2.2.1 ∈ q_TB
theorem q_fs {ad : Nat → Nat} {R : Nat → Nat → Option Nat} {I : QI} {ci q j : Nat} (hj : j < q_nf ci) : ((List.range (q_nf ci)).map (fun j => q_fv ad R I (q_ir (q_ty ci j)) q j))[j]? = some (q_fv ad R I (q_ir (q_ty ci j)) q j) := by
  rw [List.getElem?_map, List.getElem?_range hj]; rfl
theorem q_fset {ad : Nat → Nat} {R R' : Nat → Nat → Option Nat} {I I' : QI} {ci q j : Nat} {v : Value} (hj : j < q_nf ci) (hv : q_fv ad R' I' (q_ir (q_ty ci j)) q j = v) (ho : ∀ i, i ≠ j → R' q i = R q i ∧ I' q i = I q i) :
    ((List.range (q_nf ci)).map (fun j => q_fv ad R I (q_ir (q_ty ci j)) q j)).set j v = (List.range (q_nf ci)).map (fun j => q_fv ad R' I' (q_ir (q_ty ci j)) q j) := by
  apply List.ext_getElem?
  intro i
  by_cases hi : i = j
  · subst hi
    rw [List.getElem?_set_self (by rw [List.length_map, List.length_range]; exact hj), q_fs hj, hv]
  · rw [List.getElem?_set_ne (Ne.symm hi)]
    by_cases hn : i < q_nf ci
    · rw [q_fs hn, q_fs hn]
      obtain ⟨h1, h2⟩ := ho i hi
      unfold q_fv
      rw [h1, h2]
    · rw [List.getElem?_eq_none (by rw [List.length_map, List.length_range]; omega), List.getElem?_eq_none (by rw [List.length_map, List.length_range]; omega)]
theorem q_WC.obj {S : QS} {I : QI} {J : QJ} {C : QC} {q ci : Nat} (hq : q < S.2.1) (hk : S.2.2.1 q = ci) (hc : ci < 8) : (q_lay C S I J)[q]? = some (S.1 q, .inr (ci, (List.range (q_nf ci)).map (fun j => q_fv S.1 S.2.2.2.2 I (q_ir (q_ty ci j)) q j))) := by
  rw [q_lay_at hq, q_cell_o hk hc]
section QW
variable {X : QX} {M : MD} {d cT sT : Nat} {Q : QP} {pc : Nat} {lo : List (Nat × Value)} {st : List Value} {S : QS} {I : QI} {J : QJ} {k n : Nat}
theorem V_geti {q idx ci j : Nat} (hd : decode M.2.2.1 pc = .ok (.getfield idx, 3)) (hf : q_fl M.1 idx ci j) (hq : q < S.2.1) (hk : S.2.2.1 q = ci) (hr : q_ir (q_ty ci j) = false) (kk : V X M d cT sT Q (pc + 3) lo (.int (I q j) :: st) S I J k n) : V X M d cT sT Q pc lo (.ref q :: st) S I J k n := by
  intro p l e s m args below meth c H locs ls En W0 WC hS hl
  obtain ⟨hc, hj, hlk⟩ := hf
  refine va_get (D := (X.1.1, X.1.2.1)) (ci := ci) (v := .int (I q j)) En.1.1 En.1.2.1 En.1.2.2.2.2 (q_uw ci hc) En.1.2.2.2.1 W0.2.2.2.1 WC.1 q (q_WC.obj hq hk hc) (q_vw ci hc) j hj (En.1.2.2.2.2 _ hlk) (fun _ h => h) ?_ hd (kk p l e s m args below meth c H locs ls En W0 WC hS hl)
  rw [q_fs hj, hr]
  rfl
theorem V_getr {q idx ci j r : Nat} (hd : decode M.2.2.1 pc = .ok (.getfield idx, 3)) (hf : q_fl M.1 idx ci j) (hq : q < S.2.1) (hk : S.2.2.1 q = ci) (hr : q_ir (q_ty ci j) = true) (hR : S.2.2.2.2 q j = some r) (kk : V X M d cT sT Q (pc + 3) lo (.ref r :: st) S I J k n) : V X M d cT sT Q pc lo (.ref q :: st) S I J k n := by
  intro p l e s m args below meth c H locs ls En W0 WC hS hl
  obtain ⟨hc, hj, hlk⟩ := hf
  refine va_get (D := (X.1.1, X.1.2.1)) (ci := ci) (v := .ref (S.1 r)) En.1.1 En.1.2.1 En.1.2.2.2.2 (q_uw ci hc) En.1.2.2.2.1 W0.2.2.2.1 WC.1 q (q_WC.obj hq hk hc) (q_vw ci hc) j hj (En.1.2.2.2.2 _ hlk) (fun _ h => h) ?_ hd (kk p l e s m args below meth c H locs ls En W0 WC hS hl)
  rw [q_fs hj, hr]
  show some (va_rf ((S.2.2.2.2 q j).map S.1)) = _
  rw [hR]
  rfl
theorem V_puti {q idx ci j : Nat} {x : Int32} (hd : decode M.2.2.1 pc = .ok (.putfield idx, 3)) (hf : q_fl M.1 idx ci j) (hfin : (q_T ci j).2.2.2 = false) (hq : q < S.2.1) (hk : S.2.2.1 q = ci) (hr : q_ir (q_ty ci j) = false) (hn : narrow (q_ty ci j) (.int x) = .int x) (hfit : fits (q_ty ci j) (.int x) = true) (kk : V X M d cT sT Q (pc + 3) lo st S (q_u2 I q j x) J k n) : V X M d cT sT Q pc lo (.int x :: .ref q :: st) S I J k n := by
  intro p l e s m args below meth c H locs ls En W0 WC hS hl
  obtain ⟨hc, hj, hlk⟩ := hf
  refine va_put (D := (X.1.1, X.1.2.1)) (ci := ci) (v := .int x) En.1.1 En.1.2.1 En.1.2.2.2.2 (q_uw ci hc) (q_ty ci) (q_pf ci hc) (q_nm ci hc) En.1.2.2.2.1 W0.2.2.2.1 WC.1 WC.2 hS q (q_WC.obj hq hk hc) (q_vw ci hc) j hj (En.1.2.2.2.2 _ hlk) (fun _ h => h) hfin (q_pf ci hc j hj) hn hfit (by rw [List.length_map, List.length_range]; exact hj) hd (fun H1 locs1 hP1 hD1 hS1 => ?_)
  have hE9 : (q_lay X.1 S I J).set q (S.1 q, .inr (ci, ((List.range (q_nf ci)).map (fun j => q_fv S.1 S.2.2.2.2 I (q_ir (q_ty ci j)) q j)).set j (.int x))) = q_lay X.1 S (q_u2 I q j x) J := by
    refine q_lay_set hq rfl rfl ?_ (fun i hi => q_cell_cong (fun _ _ _ => rfl) rfl rfl rfl (q_u2_b I j x hi) rfl)
    rw [q_cell_o hk hc, q_fset hj (R' := S.2.2.2.2) (I' := q_u2 I q j x) (by rw [hr]; show Value.int (q_u2 I q j x q j) = _; rw [q_u2_s]) (fun i hi => ⟨rfl, q_u2_j I q x hi⟩)]
  rw [hE9] at hP1 hD1
  exact kk p l e s m args below meth c H1 locs1 ls En W0 ⟨hP1, hD1⟩ hS1 hl
/-- a reference is written: where it shows -/
def q_sR (S : QS) (R : Nat → Nat → Option Nat) : QS := (S.1, S.2.1, S.2.2.1, S.2.2.2.1, R)
theorem q_putr_e {X : QX} {S : QS} {I : QI} {J : QJ} {q ci j r : Nat} (hc : ci < 8) (hj : j < q_nf ci) (hq : q < S.2.1) (hk : S.2.2.1 q = ci) (hr : q_ir (q_ty ci j) = true) : (q_lay X.1 S I J).set q (S.1 q, .inr (ci, ((List.range (q_nf ci)).map (fun j => q_fv S.1 S.2.2.2.2 I (q_ir (q_ty ci j)) q j)).set j (.ref (S.1 r)))) = q_lay X.1 (q_sR S (q_u2 S.2.2.2.2 q j (some r))) I J := by
  refine q_lay_set (S' := q_sR S (q_u2 S.2.2.2.2 q j (some r))) hq rfl rfl ?_ (fun i hi => q_cell_cong (S' := q_sR S (q_u2 S.2.2.2.2 q j (some r))) (fun _ _ _ => rfl) rfl rfl (q_u2_b _ j _ hi) rfl rfl)
  rw [q_cell_o (S := q_sR S (q_u2 S.2.2.2.2 q j (some r))) hk hc, q_fset hj (R' := q_u2 S.2.2.2.2 q j (some r)) (I' := I) (by rw [hr]; show va_rf ((q_u2 S.2.2.2.2 q j (some r) q j).map S.1) = _; rw [q_u2_s]; rfl) (fun i hi => ⟨q_u2_j _ q _ hi, rfl⟩)]
  rfl
theorem V_putr {q idx ci j r : Nat} (hd : decode M.2.2.1 pc = .ok (.putfield idx, 3)) (hf : q_fl M.1 idx ci j) (hfin : (q_T ci j).2.2.2 = false) (hq : q < S.2.1) (hk : S.2.2.1 q = ci) (hr : q_ir (q_ty ci j) = true) (hn : ∀ a : Nat, narrow (q_ty ci j) (.ref a) = .ref a) (hfit : ∀ a : Nat, fits (q_ty ci j) (.ref a) = true) (kk : V X M d cT sT Q (pc + 3) lo st (q_sR S (q_u2 S.2.2.2.2 q j (some r))) I J k n) : V X M d cT sT Q pc lo (.ref r :: .ref q :: st) S I J k n := by
  intro p l e s m args below meth c H locs ls En W0 WC hS hl
  obtain ⟨hc, hj, hlk⟩ := hf
  refine va_put (D := (X.1.1, X.1.2.1)) (ci := ci) (v := .ref (S.1 r)) En.1.1 En.1.2.1 En.1.2.2.2.2 (q_uw ci hc) (q_ty ci) (q_pf ci hc) (q_nm ci hc) En.1.2.2.2.1 W0.2.2.2.1 WC.1 WC.2 hS q (q_WC.obj hq hk hc) (q_vw ci hc) j hj (En.1.2.2.2.2 _ hlk) (fun _ h => h) hfin (q_pf ci hc j hj) (hn _) (hfit _) (by rw [List.length_map, List.length_range]; exact hj) hd (fun H1 locs1 hP1 hD1 hS1 => ?_)
  rw [q_putr_e hc hj hq hk hr] at hP1 hD1
  exact kk p l e s m args below meth c H1 locs1 ls En W0 ⟨hP1, hD1⟩ hS1 hl
theorem V_putF {q idx ci j r : Nat} (hd : decode M.2.2.1 pc = .ok (.putfield idx, 3)) (hf : q_fl M.1 idx ci j) (hfin : (q_T ci j).2.2.2 = true) (hin : M.2.1.name = "<init>") (hdecl : (q_T ci j).1 = M.1) (hq : q < S.2.1) (hk : S.2.2.1 q = ci) (hr : q_ir (q_ty ci j) = true) (hn : ∀ a : Nat, narrow (q_ty ci j) (.ref a) = .ref a) (hfit : ∀ a : Nat, fits (q_ty ci j) (.ref a) = true) (kk : V X M d cT sT Q (pc + 3) lo st (q_sR S (q_u2 S.2.2.2.2 q j (some r))) I J k n) : V X M d cT sT Q pc lo (.ref r :: .ref q :: st) S I J k n := by
  intro p l e s m args below meth c H locs ls En W0 WC hS hl
  obtain ⟨hc, hj, hlk⟩ := hf
  refine va_putF (D := (X.1.1, X.1.2.1)) (ci := ci) (v := .ref (S.1 r)) En.1.1 En.1.2.1 En.1.2.2.2.2 (q_uw ci hc) (q_ty ci) (q_pf ci hc) (q_nm ci hc) En.1.2.2.2.1 W0.2.2.2.1 WC.1 WC.2 hS q (q_WC.obj hq hk hc) (q_vw ci hc) j hj (En.1.2.2.2.2 _ hlk) (fun _ h => h) hfin (En.2.2.2.2.1.trans hin) hdecl (q_pf ci hc j hj) (hn _) (hfit _) (by rw [List.length_map, List.length_range]; exact hj) hd (fun H1 locs1 hP1 hD1 hS1 => ?_)
  rw [q_putr_e hc hj hq hk hr] at hP1 hD1
  exact kk p l e s m args below meth c H1 locs1 ls En W0 ⟨hP1, hD1⟩ hS1 hl
theorem V_iald {q : Nat} {i : Int32} (hd : decode M.2.2.1 pc = .ok (.iaload, 1)) (hq : q < S.2.1) (hk : S.2.2.1 q = 9) (hi : vp_in i (S.2.2.2.1 q)) (kk : V X M d cT sT Q (pc + 1) lo (.int (I q i.toNatClampNeg) :: st) S I J k n) : V X M d cT sT Q pc lo (.int i :: .ref q :: st) S I J k n := by
  intro p l e s m args below meth c H locs ls En W0 WC hS hl
  exact va_iald En.1.1 En.1.2.1 W0.2.2.2.1 WC.1 q 0 ((q_lay_at hq).trans (by rw [q_cell_i hk])) rfl hi hd (kk p l e s m args below meth c H locs ls En W0 WC hS hl)
theorem V_zald {q : Nat} {i : Int32} (hd : decode M.2.2.1 pc = .ok (.baload, 1)) (hq : q < S.2.1) (hk : S.2.2.1 q = 11) (hi : vp_in i (S.2.2.2.1 q)) (kk : V X M d cT sT Q (pc + 1) lo (.int (I q i.toNatClampNeg) :: st) S I J k n) : V X M d cT sT Q pc lo (.int i :: .ref q :: st) S I J k n := by
  intro p l e s m args below meth c H locs ls En W0 WC hS hl
  exact va_zald En.1.1 En.1.2.1 W0.2.2.2.1 WC.1 q 1 ((q_lay_at hq).trans (by rw [q_cell_z hk])) rfl hi hd (kk p l e s m args below meth c H locs ls En W0 WC hS hl)
theorem V_aald {q r : Nat} {i : Int32} (hd : decode M.2.2.1 pc = .ok (.aaload, 1)) (hq : q < S.2.1) (hk : S.2.2.1 q = 12) (hi : vp_in i (S.2.2.2.1 q)) (hR : S.2.2.2.2 q i.toNatClampNeg = some r) (kk : V X M d cT sT Q (pc + 1) lo (.ref r :: st) S I J k n) : V X M d cT sT Q pc lo (.int i :: .ref q :: st) S I J k n := by
  intro p l e s m args below meth c H locs ls En W0 WC hS hl
  refine va_aldq (C := RX5) En.1.1 En.1.2.1 W0.2.2.2.1 WC.1 q 2 ((q_lay_at hq).trans (by rw [q_cell_t hk])) rfl hi hd ?_
  rw [hR]
  exact kk p l e s m args below meth c H locs ls En W0 WC hS hl
theorem V_iast {q : Nat} {i x : Int32} (hd : decode M.2.2.1 pc = .ok (.iastore, 1)) (hq : q < S.2.1) (hk : S.2.2.1 q = 9) (hi : vp_in i (S.2.2.2.1 q)) (kk : V X M d cT sT Q (pc + 1) lo st S (q_u2 I q i.toNatClampNeg x) J k n) : V X M d cT sT Q pc lo (.int x :: .int i :: .ref q :: st) S I J k n := by
  intro p l e s m args below meth c H locs ls En W0 WC hS hl
  refine va_iast En.1.1 En.1.2.1 W0.2.2.2.1 WC.1 WC.2 hS q 0 ((q_lay_at hq).trans (by rw [q_cell_i hk])) rfl hi hd (fun H1 locs1 hP1 hD1 hS1 => ?_)
  have hE9 : (q_lay X.1 S I J).set q (S.1 q, .inl (X.1.2.2.1, S.2.2.2.1 q, .inl (upd (I q) i.toNatClampNeg x))) = q_lay X.1 S (q_u2 I q i.toNatClampNeg x) J :=
    q_lay_set hq rfl rfl (by rw [q_cell_i hk, q_u2_r]) (fun j hj => q_cell_cong (fun _ _ _ => rfl) rfl rfl rfl (q_u2_b I _ x hj) rfl)
  rw [hE9] at hP1 hD1
  exact kk p l e s m args below meth c H1 locs1 ls En W0 ⟨hP1, hD1⟩ hS1 hl
theorem V_zast {q : Nat} {i x : Int32} (hd : decode M.2.2.1 pc = .ok (.bastore, 1)) (hq : q < S.2.1) (hk : S.2.2.1 q = 11) (hi : vp_in i (S.2.2.2.1 q)) (hx : vp_nar .boolean x = x) (kk : V X M d cT sT Q (pc + 1) lo st S (q_u2 I q i.toNatClampNeg x) J k n) : V X M d cT sT Q pc lo (.int x :: .int i :: .ref q :: st) S I J k n := by
  intro p l e s m args below meth c H locs ls En W0 WC hS hl
  refine va_zast En.1.1 En.1.2.1 W0.2.2.2.1 WC.1 WC.2 hS q 1 ((q_lay_at hq).trans (by rw [q_cell_z hk])) rfl hi hd (fun H1 locs1 hP1 hD1 hS1 => ?_)
  rw [hx] at hP1 hD1
  have hE9 : (q_lay X.1 S I J).set q (S.1 q, .inl (X.1.2.2.2.2.1, S.2.2.2.1 q, .inl (upd (I q) i.toNatClampNeg x))) = q_lay X.1 S (q_u2 I q i.toNatClampNeg x) J :=
    q_lay_set hq rfl rfl (by rw [q_cell_z hk, q_u2_r]) (fun j hj => q_cell_cong (fun _ _ _ => rfl) rfl rfl rfl (q_u2_b I _ x hj) rfl)
  rw [hE9] at hP1 hD1
  exact kk p l e s m args below meth c H1 locs1 ls En W0 ⟨hP1, hD1⟩ hS1 hl
theorem V_alenI {q : Nat} {v : Int32} (hd : decode M.2.2.1 pc = .ok (.arraylength, 1)) (hq : q < S.2.1) (hk : S.2.2.1 q = 9) (hv : Int32.ofNat (S.2.2.2.1 q) = v) (kk : V X M d cT sT Q (pc + 1) lo (.int v :: st) S I J k n) : V X M d cT sT Q pc lo (.ref q :: st) S I J k n := by
  intro p l e s m args below meth c H locs ls En W0 WC hS hl
  exact va_alen En.1.1 En.1.2.1 W0.2.2.2.1 WC.1 q 0 ((q_lay_at hq).trans (by rw [q_cell_i hk])) rfl hv hd (kk p l e s m args below meth c H locs ls En W0 WC hS hl)
theorem V_alenZ {q : Nat} {v : Int32} (hd : decode M.2.2.1 pc = .ok (.arraylength, 1)) (hq : q < S.2.1) (hk : S.2.2.1 q = 11) (hv : Int32.ofNat (S.2.2.2.1 q) = v) (kk : V X M d cT sT Q (pc + 1) lo (.int v :: st) S I J k n) : V X M d cT sT Q pc lo (.ref q :: st) S I J k n := by
  intro p l e s m args below meth c H locs ls En W0 WC hS hl
  exact va_alen En.1.1 En.1.2.1 W0.2.2.2.1 WC.1 q 1 ((q_lay_at hq).trans (by rw [q_cell_z hk])) rfl hv hd (kk p l e s m args below meth c H locs ls En W0 WC hS hl)
theorem q_nA {X : QX} (h : X.2.1.1 < X.2.2) : ¬ q_A X X.2.1.1 := fun z => absurd h (Nat.not_lt.mpr z)
theorem V_slen {q : Nat} (hd : decode M.2.2.1 pc = .ok (.arraylength, 1)) (hb : S.1 q = X.2.1.1) (kk : V X M d cT sT Q (pc + 1) lo (.int (Int32.ofNat X.2.1.2.1) :: st) S I J k n) : V X M d cT sT Q pc lo (.ref q :: st) S I J k n := by
  intro p l e s m args below meth c H locs ls En W0 WC hS hl
  have h := va_slen En.1.1 En.1.2.1 W0.1 (Nat.lt_of_lt_of_le W0.2.1 W0.2.2.1) (q_nA W0.2.1) hS hd (kk p l e s m args below meth c H locs ls En W0 WC hS hl)
  rw [← hb] at h
  exact h
theorem V_sld {q : Nat} {i : Int32} (hd : decode M.2.2.1 pc = .ok (.iaload, 1)) (hb : S.1 q = X.2.1.1) (hi : vp_in i X.2.1.2.1) (kk : V X M d cT sT Q (pc + 1) lo (.int (X.2.1.2.2 i.toNatClampNeg) :: st) S I J k n) : V X M d cT sT Q pc lo (.int i :: .ref q :: st) S I J k n := by
  intro p l e s m args below meth c H locs ls En W0 WC hS hl
  have h := va_sld En.1.1 En.1.2.1 W0.1 (Nat.lt_of_lt_of_le W0.2.1 W0.2.2.1) (q_nA W0.2.1) hS hi hd (kk p l e s m args below meth c H locs ls En W0 WC hS hl)
  rw [← hb] at h
  exact h
/-- ends -/
theorem q_fr {X : QX} {s : State} {H : Heap} {locs : List Loc} (hS : va_S (q_A X) s.heap H locs) : ∀ q ∈ locs, q_A X q.base := hS.2.2
theorem V_iret {x : Int32} (hd : decode M.2.2.1 pc = .ok (.ireturn, 1)) (hr : M.2.2.2.2.1 = some .int) (hc : k ≤ cT) (hs : n ≤ sT) (hQ : Q (.inl (some (.int x))) S I J) : V X M d cT sT Q pc lo [.int x] S I J k n := by
  intro p l e s m args below meth c H locs ls En W0 WC hS hl
  refine W.widen hc hs (vx_ret ?_)
  have hlk := En.2.2.1
  exact W.iret (v := x) En.1.1 En.1.2.1 (En.2.1.trans hr) (fun t ht hW => ⟨some (.int x), S, I, J, rfl, hQ, by rw [ht]; exact WC, hS.F ht⟩) (q_fr hS) hd
theorem V_zret {x : Int32} {ty : FieldType} (hd : decode M.2.2.1 pc = .ok (.ireturn, 1)) (hr : M.2.2.2.2.1 = some ty) (hn : narrow ty (.int x) = .int x) (hc : k ≤ cT) (hs : n ≤ sT) (hQ : Q (.inl (some (.int x))) S I J) : V X M d cT sT Q pc lo [.int x] S I J k n := by
  intro p l e s m args below meth c H locs ls En W0 WC hS hl
  refine W.widen hc hs (vx_ret ?_)
  have hlk := En.2.2.1
  exact W.zret (v := x) En.1.1 En.1.2.1 (En.2.1.trans hr) hn (fun t ht hW => ⟨some (.int x), S, I, J, rfl, hQ, by rw [ht]; exact WC, hS.F ht⟩) (q_fr hS) hd
theorem V_vret (hd : decode M.2.2.1 pc = .ok (.return_, 1)) (hr : M.2.2.2.2.1 = none) (hc : k ≤ cT) (hs : n ≤ sT) (hQ : Q (.inl none) S I J) : V X M d cT sT Q pc lo [] S I J k n := by
  intro p l e s m args below meth c H locs ls En W0 WC hS hl
  refine W.widen hc hs (vx_ret ?_)
  have hlk := En.2.2.1
  exact W.vret En.1.1 En.1.2.1 (En.2.1.trans hr) (fun t ht hW => ⟨none, S, I, J, rfl, hQ, by rw [ht]; exact WC, hS.F ht⟩) (q_fr hS) hd
theorem V_aret {v : Value} {rt : FieldType} (hd : decode M.2.2.1 pc = .ok (.areturn, 1)) (hr : M.2.2.2.2.1 = some rt) (hrt : (∃ n, rt = .object n) ∨ ∃ t, rt = .array t) (hv : v = .null ∨ ∃ a, v = .ref a) (hc : k ≤ cT) (hs : n ≤ sT) (hQ : Q (.inl (some v)) S I J) : V X M d cT sT Q pc lo [v] S I J k n := by
  intro p l e s m args below meth c H locs ls En W0 WC hS hl
  refine W.widen hc hs (vx_ret ?_)
  have hlk := En.2.2.1
  refine W.aret (v := q_cv S.1 v) En.1.1 En.1.2.1 (En.2.1.trans hr) hrt ?_ (fun t ht hW => ⟨some v, S, I, J, rfl, hQ, by rw [ht]; exact WC, hS.F ht⟩) (q_fr hS) hd
  rcases hv with rfl | ⟨a, rfl⟩
  · exact Or.inl rfl
  · exact Or.inr ⟨S.1 a, rfl⟩
end QW
