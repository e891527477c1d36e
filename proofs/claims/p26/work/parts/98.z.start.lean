/-! the claim's start: the classes' numbers, the script, what stays; the law's body from its first instruction -/
def q_S0 (b : Nat) : QS := (fun _ => b, 0, fun _ => 0, fun _ => 0, fun _ _ => none)
/-- THE PURE CLAIM: over positions, rows and numbers alone -/
def q_pure : Prop := ∀ (X : QX), X.2.1.2.1 ≤ 260 → wL_start X (fun r => r = 1) (q_S0 X.2.1.1) (fun _ _ => 0) (fun _ _ => 0)
theorem q_stand {p : Program} {l : Launch} {e : Env} {R R' : Room} {s : State} {m : MethodId} {args : Array Value} {below : List Frame} {meth : Method} {c : Code} {T : State} {locs : List Loc} {cells slots : Nat} (h1 : R'.frames ≤ R.frames) (h2 : R'.locals ≤ R.locals) (h3 : R'.cells ≤ R.cells) (h4 : R'.slots ≤ R.slots)
    (X : Stand p l e R s m args below meth c T locs cells slots) : Stand p l e R' s m args below meth c T locs cells slots := by
  refine { X with room := ?_ }
  have h := X.room
  simp only [State.hasRoom, Bool.and_eq_true, decide_eq_true_eq] at h ⊢
  obtain ⟨⟨⟨⟨a1, a2, a3, a4, a5, a6⟩, a7⟩, a8⟩, a9⟩ := h
  exact ⟨⟨⟨⟨by omega, by omega, by omega, by omega, by omega, a6⟩, by omega⟩, by omega⟩, a9⟩
theorem q_kn {args : Array Value} {s : State} (hts : ∀ w ∈ lw_tbl, w.before args s = true) : ∃ (dC : Nat → ClassId) (dI : Nat → Nat → Nat), ∀ ci, ci < 8 → u_Kn s (q_Cn ci) (q_T ci) (q_nf ci) (dC ci) (dI ci) := by
  have htb : ∀ w ∈ q_TB, w.before args s = true := fun w h => hts w (List.mem_filter.mp h).1
  have h : ∀ ci, ∃ q : ClassId × (Nat → Nat), ci < 8 → u_Kn s (q_Cn ci) (q_T ci) (q_nf ci) q.1 q.2 := by
    intro ci
    by_cases hc : ci < 8
    · have hin : (Cond.instantiable (q_Cn ci) (q_nf ci)).before args s = true := htb _ (q_n9 (P := fun ci => Cond.instantiable (q_Cn ci) (q_nf ci) ∈ q_TB) is_RX0 is_RX1 is_RX2 is_RX3 is_RX4 is_RX5 is_RX6 is_RX7 ci hc)
      obtain ⟨cC, iS, hk⟩ := u_known (ws := q_TB) htb (q_uw ci hc) hin
      exact ⟨(cC, iS), fun _ => hk⟩
    · exact ⟨(0, fun _ => 0), fun h => absurd h hc⟩
  exact ⟨fun ci => (Classical.choose (h ci)).1, fun ci => (Classical.choose (h ci)).2, fun ci hc => Classical.choose_spec (h ci) hc⟩
theorem q_arr {args : Array Value} {s : State} {ty : FieldType} (h : (Cond.arrayClass ty).before args s = true) : ∃ cA : ClassId, ArrOfT s cA ty ∧ s.vm.findClass ("[" ++ ty.toString) = some cA := by
  obtain ⟨cA, kA, comp, h1, h2, h3⟩ := Cond.arrayClass_spec h
  exact ⟨cA, fun n z => ⟨fun k h => (by cases h), kA, h2, comp, h3⟩, h1⟩
theorem q_arrT {args : Array Value} {s : State} (h : (Cond.arrayOver (.object RX5)).before args s = true) : ∃ cA : ClassId, ArrOfT s cA (.object RX5) ∧ va_RA s cA (.object RX5) := by
  obtain ⟨comp, cA, kA, h1, -, h3, h4, h5⟩ := Cond.arrayOver_spec h
  exact ⟨cA, fun n z => ⟨fun k h => (by cases h), kA, h3, comp, h4⟩, kA, comp, h3, h4, h1, h5⟩
set_option maxRecDepth 100000 in
theorem q_strw : ∀ q ∈ q_strs, Cond.stringRef RX7 q.1 q.2 ∈ lw_tbl := by decide +kernel
set_option maxRecDepth 100000 in
theorem q_nestw : ∀ q ∈ q_nests, Cond.methodLinkNest q.1 q.2.1 q.2.2.1 q.2.2.2 ∈ lw_tbl := by decide +kernel
set_option maxRecDepth 100000 in
theorem q_decw : ∀ x ∈ q_dec, Cond.declares x ∈ lw_tbl := by decide +kernel
set_option maxRecDepth 100000 in
theorem q_casw : ∀ E ∈ q_exs, Cond.castable E E ∈ lw_tbl := by decide +kernel
set_option maxRecDepth 100000 in
theorem q_aow : Cond.arrayOver (.object RX5) ∈ lw_tbl := by decide +kernel
set_option maxRecDepth 100000 in
theorem q_laysw : Cond.laysStatic Bundle.tN "UNASSIGNED_STACK" Bundle.steD ∈ lw_tbl ∧ Cond.laysStatic Bundle.tN "SUPPRESSED_SENTINEL" Bundle.listD ∈ lw_tbl ∧ Cond.initialized Bundle.tN ∈ lw_tbl := by decide +kernel
set_option maxRecDepth 100000 in
theorem q_strx : ∀ q ∈ q_strs, Cond.exactly (.string RX7 q.1) "java/lang/String" ∈ flatC (Jvm.Cond.and given_1 narrow_1) := by decide +kernel
set_option maxRecDepth 100000 in
theorem q_ncw : ∀ E ∈ q_exs, ∀ F ∈ q_exs, E ≠ F → Cond.not (Cond.castable E F) ∈ flatC (Jvm.Cond.and given_1 narrow_1) := by decide +kernel
set_option maxRecDepth 100000 in
theorem q_isw : Cond.isRef (.static Bundle.tN "UNASSIGNED_STACK" Bundle.steD) ∈ flatC (Jvm.Cond.and given_1 narrow_1) ∧ Cond.isRef (.static Bundle.tN "SUPPRESSED_SENTINEL" Bundle.listD) ∈ flatC (Jvm.Cond.and given_1 narrow_1) := by decide +kernel
theorem q_fx {b : Nat} {s : State} (hts : ∀ w ∈ lw_tbl, w.before #[Value.ref b] s = true) (hg : (Jvm.Cond.and given_1 narrow_1).before #[Value.ref b] s = true) : q_Fx s := by
  have hf := flat_of_before _ hg
  refine ⟨fun q hq => ?_, fun q hq => va_Nw.of (w := Cond.methodLinkNest q.1 q.2.1 q.2.2.1 q.2.2.2) rfl (hts _ (q_nestw q hq)), fun E hE => va_Nw.of rfl (hts _ (q_casw E hE)), fun E hE F hF hn => va_Nc.of (hf _ (q_ncw E hE F hF hn)), va_AO.of (by exact hts _ q_aow), fun x hx => va_Nw.of rfl (hts _ (q_decw x hx))⟩
  have h1 := hts _ (q_strw q hq)
  obtain ⟨a, c, cell, k, h2, -⟩ := Cond.exactly_spec (hf _ (q_strx q hq))
  exact ⟨a, vk_R.of (A := #[Value.ref b]) h1 h2⟩

theorem q_law_pure : q_pure := fun X hl => s9_law (X := X) (post := fun r => r = 1) hl rfl ⟨rfl, fun j hj => absurd hj (Nat.not_lt_zero j), fun b i => rfl, fun e he => absurd he (by exact List.not_mem_nil)⟩ (fun b i => rfl) rfl
