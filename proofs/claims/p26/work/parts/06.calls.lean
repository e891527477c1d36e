/-! calls, throws, new cells, bodies -/
theorem q_good {M : MD} {n : Nat} (h : q_ok M n) : GoodIn q_TB (q_ws M) := by
  intro w hw
  rcases List.mem_cons.mp hw with rfl | hw
  · exact ⟨h.1, good_of_word (q_tb_good _ h.1)⟩
  · exact ⟨hw, good_of_word (q_tb_good _ hw)⟩
theorem q_ws0 {M : MD} (h : M.2.2.2.2.2 = []) : q_ws M = Cond.code M.2.1 M.2.2.1 M.2.2.2.1 M.2.2.2.2.1 :: q_TB := by
  unfold q_ws q_wd
  rw [h]
theorem q_ws1 {M : MD} (h : M.2.2.2.2.2 ≠ []) : q_ws M = Cond.codeWith M.2.1 M.2.2.1 M.2.2.2.1 M.2.2.2.2.1 M.2.2.2.2.2 :: q_TB := by
  unfold q_ws q_wd
  cases hh : M.2.2.2.2.2 with
  | nil => exact absurd hh h
  | cons a t => rfl
theorem q_blind {X : QX} {S : QS} {I : QI} {J : QJ} {av : List Value} : FrameBlind (fun a U => a = (av.map (q_cv S.1)).toArray ∧ q_W0 X U U.heap ∧ q_WC X S I J U.heap) := by
  intro a U g mk ⟨h1, h2, h3⟩
  refine ⟨h1, ?_, h3⟩
  have hS : va_S (q_A X) U.heap U.heap [] := va_S.rf
  exact q_W0.on (U := U.calling g mk a) h2 hS (State.WarmedH.refl U)
theorem q_room {d d2 : Nat} {c2 s2 cT sT maxL : Nat} (hd : d2 + 1 ≤ d) (hm : maxL ≤ 45) : (q_rm d2 c2 s2).frames + 1 ≤ (q_rm d cT sT).frames ∧ 8 + (maxL + 11) + (q_rm d2 c2 s2).locals ≤ (q_rm d cT sT).locals := by
  constructor
  · show d2 + 8 + 1 ≤ d + 8
    omega
  · show 8 + (maxL + 11) + (64 * d2 + 128) ≤ 64 * d + 128
    omega
theorem q_rev {f : Value → Value} {As st : List Value} {v : Value} : (As.reverse ++ v :: st).map f = (As.map f).reverse ++ f v :: st.map f := by
  rw [List.map_append, List.map_reverse, List.map_cons]
theorem q_sum {ad : Nat → Nat} {st : List Value} : ((st.map (q_cv ad)).map fun v => v.category).sum = (st.map fun v => v.category).sum := by
  rw [List.map_map]
  congr 1
  apply List.map_congr_left
  intro v _
  exact q_cat ad v
/-- the positions that a list of values names are below N -/
def q_vb (N : Nat) (st : List Value) : Prop := ∀ r, Value.ref r ∈ st → r < N ∨ 900000 ≤ r
theorem q_vb_cv {N : Nat} {st : List Value} {ad ad2 : Nat → Nat} (h : ∀ r, r < N ∨ 900000 ≤ r → ad2 r = ad r) (hb : q_vb N st) : st.map (q_cv ad2) = st.map (q_cv ad) := by
  apply List.map_congr_left
  intro v hv
  cases v with
  | ref r => show Value.ref _ = Value.ref _; rw [h r (hb r hv)]
  | _ => rfl
theorem q_lb_cv {N : Nat} {lo : List (Nat × Value)} {ad ad2 : Nat → Nat} (h : ∀ r, r < N ∨ 900000 ≤ r → ad2 r = ad r) (hb : q_vb N (lo.map (·.2))) : q_lc ad2 lo = q_lc ad lo := by
  unfold q_lc
  apply List.map_congr_left
  intro q hq
  obtain ⟨i, v⟩ := q
  cases v with
  | ref r => show (i, Value.ref _) = (i, Value.ref _); rw [h r (hb r (List.mem_map.mpr ⟨_, hq, rfl⟩))]
  | _ => rfl
section QC1
variable {X : QX} {M : MD} {d cT sT : Nat} {Q : QP} {pc : Nat} {lo : List (Nat × Value)} {st : List Value} {S : QS} {I : QI} {J : QJ} {k n : Nat}
/-- behind a run of a callee -/
theorem q_after {c2 s2 : Nat} {Q2 : QP} {p : Program} {l : Launch} {e : Env} {s : State} {m : MethodId} {args : Array Value} {below : List Frame} {meth : Method} {c : Code} {H : Heap} {locs : List Loc} {ls : Array Slot} {st0 : List Value} {a2 : Array Value}
    (En : q_En M p l s m args meth c) (W0 : q_W0 X s s.heap) (hS : va_S (q_A X) s.heap H locs) (hl : lv_has ls M.2.2.2.1 (q_lc S.1 lo))
    (hag : ∀ (v : Option Value) (S2 : QS) (I2 : QI) (J2 : QJ), Q2 (.inl v) S2 I2 J2 → q_lc S2.1 lo = q_lc S.1 lo ∧ st.map (q_cv S2.1) = st.map (q_cv S.1))
    (hagx : ∀ (E : String) (S2 : QS) (I2 : QI) (J2 : QJ), Q2 (.inr E) S2 I2 J2 → q_lc S2.1 lo = q_lc S.1 lo)
    (kk : ∀ (v : Option Value) (S2 : QS) (I2 : QI) (J2 : QJ), Q2 (.inl v) S2 I2 J2 → V X M d cT sT Q (pc + 3) lo (v.toList ++ st) S2 I2 J2 (k + c2) (n + s2))
    (kx : ∀ (E : String) (S2 : QS) (I2 : QI) (J2 : QJ), Q2 (.inr E) S2 I2 J2 → VT X M d cT sT Q pc lo E S2 I2 J2 (k + c2) (n + s2))
    (hr : vx_Run p l e (q_rm d cT sT) s m args below meth c H locs k n c2 s2 (F0 m pc ls st0) (st.map (q_cv S.1)) (q_Qc X Q2 a2) (q_Xc X Q2) (q_A X)) :
    W p l e (q_rm d cT sT) s m args below meth c H locs k n (vx_MQ below (q_Qc X Q) (q_Xc X Q) args s cT sT (q_A X)) (F0 m pc ls st0) := by
  intro T hT XX
  rcases hr T hT XX with ⟨v, st1, t, T', L, h0, X', hL, e1, e2, ⟨v2, S2, I2, J2, ho, hq, hw, hF⟩, stp⟩ | ⟨q, st1, t, T', L, E, ce, h0, X', hL, e1, e2, ⟨S2, I2, J2, hq, hw, hF⟩, hce, hcv, hcl, stp⟩
  · cases ho
    obtain ⟨g1, g2⟩ := hag _ _ _ _ hq
    obtain ⟨-, -, k3⟩ := vx_keep (A1 := q_A X) h0 e1 hS (fun _ _ h => h) (fun _ h => h) hL hF
    rw [← g1] at hl
    have hv := kk v2 S2 I2 J2 hq p l e s m args below meth c T'.heap (locs ++ L) ls En W0 (by rw [e1]; exact hw) k3 hl
    rw [List.map_append, g2] at hv
    obtain ⟨t2, a1, b1⟩ := hv T' rfl X'
    refine ⟨t2, stp t2 ?_, b1⟩
    cases v2 with
    | none => exact a1
    | some w => exact a1
  · have g1 := hagx _ _ _ _ hq
    obtain ⟨-, -, k3⟩ := vx_keep (A1 := q_A X) h0 e1 hS (fun _ _ h => h) (fun _ h => h) hL hF
    rw [← g1] at hl
    have hv := kx E S2 I2 J2 hq p l e s m args below meth c T'.heap (locs ++ L) ls (st.map (q_cv S.1)) ce q En W0 (by rw [e1]; exact hw) k3 hl (by rw [e1]; exact hce) hcv hcl
    obtain ⟨t2, a1, b1⟩ := hv T' rfl X'
    exact ⟨t2, stp.trans a1, b1⟩
theorem q_pre {av : List Value} {p : Program} {l : Launch} {s : State} {m : MethodId} {args : Array Value} {meth : Method} {c : Code} {H : Heap} {locs : List Loc}
    (W0 : q_W0 X s s.heap) (WC : q_WC X S I J H) (hS : va_S (q_A X) s.heap H locs) : PreS s H (fun a U => a = (av.map (q_cv S.1)).toArray ∧ q_W0 X U U.heap ∧ q_WC X S I J U.heap) (av.map (q_cv S.1)) :=
  ⟨q_blind, fun U hU hW => ⟨rfl, by rw [hU]; exact q_W0.on W0 hS hW, by rw [hU]; exact WC⟩⟩
theorem V_callV {M2 : MD} {d2 c2 s2 q ci idx : Nat} {As : List Value} {Q2 : QP} (hd : decode M.2.2.1 pc = .ok (.invokevirtual idx, 3)) (ok : q_ok M2 As.length) (hh : M2.2.2.2.2.2 = []) (hlk : Cond.methodLink M.1 idx M2.2.1 ∈ q_TB) (hin : Cond.instanceMethod M2.2.1 ∈ q_TB) (hse : Cond.selects M2.2.1.cls M2.2.1 M2.2.1 ∈ q_TB)
    (hq : q < S.2.1) (hk : S.2.2.1 q = ci) (hci : ci < 8) (hcn : q_Cn ci = M2.2.1.cls) (hst : (st.map fun v => v.category).sum ≤ 8) (hdp : d2 + 1 ≤ d) (hc : k + c2 ≤ cT) (hs : n + s2 ≤ sT) (C2 : CX X M2 d2 c2 s2 (.ref q :: As) S I J Q2)
    (hag : ∀ (v : Option Value) (S2 : QS) (I2 : QI) (J2 : QJ), Q2 (.inl v) S2 I2 J2 → q_lc S2.1 lo = q_lc S.1 lo ∧ st.map (q_cv S2.1) = st.map (q_cv S.1))
    (hagx : ∀ (E : String) (S2 : QS) (I2 : QI) (J2 : QJ), Q2 (.inr E) S2 I2 J2 → q_lc S2.1 lo = q_lc S.1 lo)
    (kk : ∀ (v : Option Value) (S2 : QS) (I2 : QI) (J2 : QJ), Q2 (.inl v) S2 I2 J2 → V X M d cT sT Q (pc + 3) lo (v.toList ++ st) S2 I2 J2 (k + c2) (n + s2))
    (kx : ∀ (E : String) (S2 : QS) (I2 : QI) (J2 : QJ), Q2 (.inr E) S2 I2 J2 → VT X M d cT sT Q pc lo E S2 I2 J2 (k + c2) (n + s2)) : V X M d cT sT Q pc lo (As.reverse ++ .ref q :: st) S I J k n := by
  intro p l e s m args below meth c H locs ls En W0 WC hS hl
  have hts := En.1.2.2.2.2
  have cb : CallW (q_rm d cT sT) s args M.1 M2.2.1.cls idx M2.2.1 M2.2.2.1 M2.2.2.2.1 M2.2.2.2.2.1 (q_ws M2) (q_rm d2 c2 s2) c2 s2 As.length :=
    ⟨callB_of As.length hts (q_good ok) (q_ws0 hh) rfl rfl (hts _ ok.2.2.2.2) (hts _ hlk) ok.2.2.1 (q_room hdp ok.2.2.2.1), hts _ hin, hts _ hse⟩
  have hrc := va_recv (s := s) W0.2.2.2.1 WC.1 (q_vw ci hci) (q_WC.obj hq hk hci)
  have hp := q_pre (av := .ref q :: As) (p := p) (l := l) (m := m) (args := args) (meth := meth) (c := c) W0 WC hS
  refine q_after En W0 hS hl hag hagx kk kx (vx_runV ⟨En.1.1, En.1.2.1, En.1.2.2.1, En.1.2.2.2.1, hts⟩ (C2 l En.2.2.2.2.2) cb (b := S.1 q) (As := As.map (q_cv S.1)) ⟨hp.1, by rw [← hcn]; exact hrc, hp.2⟩ rfl (List.length_map _) hl.1 q_rev ?_ hd ⟨hc, hs⟩)
  show 2 * 0 + _ ≤ 8
  rw [q_sum]
  omega
theorem V_callS {M2 : MD} {d2 c2 s2 idx : Nat} {As : List Value} {Q2 : QP} (hd : decode M.2.2.1 pc = .ok (.invokestatic idx, 3)) (ok : q_ok M2 As.length) (hh : M2.2.2.2.2.2 = []) (hlk : Cond.methodLink M.1 idx M2.2.1 ∈ q_TB) (hstt : Cond.static M2.2.1 ∈ q_TB)
    (hst : (st.map fun v => v.category).sum ≤ 8) (hdp : d2 + 1 ≤ d) (hc : k + c2 ≤ cT) (hs : n + s2 ≤ sT) (C2 : CX X M2 d2 c2 s2 As S I J Q2)
    (hag : ∀ (v : Option Value) (S2 : QS) (I2 : QI) (J2 : QJ), Q2 (.inl v) S2 I2 J2 → q_lc S2.1 lo = q_lc S.1 lo ∧ st.map (q_cv S2.1) = st.map (q_cv S.1))
    (hagx : ∀ (E : String) (S2 : QS) (I2 : QI) (J2 : QJ), Q2 (.inr E) S2 I2 J2 → q_lc S2.1 lo = q_lc S.1 lo)
    (kk : ∀ (v : Option Value) (S2 : QS) (I2 : QI) (J2 : QJ), Q2 (.inl v) S2 I2 J2 → V X M d cT sT Q (pc + 3) lo (v.toList ++ st) S2 I2 J2 (k + c2) (n + s2))
    (kx : ∀ (E : String) (S2 : QS) (I2 : QI) (J2 : QJ), Q2 (.inr E) S2 I2 J2 → VT X M d cT sT Q pc lo E S2 I2 J2 (k + c2) (n + s2)) : V X M d cT sT Q pc lo (As.reverse ++ st) S I J k n := by
  intro p l e s m args below meth c H locs ls En W0 WC hS hl
  have hts := En.1.2.2.2.2
  have cb : CallB (q_rm d cT sT) s args M.1 idx M2.2.1 M2.2.2.1 M2.2.2.2.1 M2.2.2.2.2.1 (q_ws M2) (q_rm d2 c2 s2) c2 s2 As.length :=
    callB_of As.length hts (q_good ok) (q_ws0 hh) rfl rfl (hts _ ok.2.2.2.2) (hts _ hlk) ok.2.2.1 (q_room hdp ok.2.2.2.1)
  have hp := q_pre (av := As) (p := p) (l := l) (m := m) (args := args) (meth := meth) (c := c) W0 WC hS
  refine q_after En W0 hS hl hag hagx kk kx (vx_runS ⟨En.1.1, En.1.2.1, En.1.2.2.1, En.1.2.2.2.1, hts⟩ (C2 l En.2.2.2.2.2) ⟨cb, hts _ hstt⟩ (As := As.map (q_cv S.1)) hp rfl (List.length_map _) hl.1 (by rw [List.map_append, List.map_reverse]) ?_ hd ⟨hc, hs⟩)
  show 2 * 0 + _ ≤ 8
  rw [q_sum]
  omega
/-- a method that never throws -/
theorem CX.met {M2 : MD} {d2 c2 s2 : Nat} {av : List Value} {Q2 : QP} (h : CX X M2 d2 c2 s2 av S I J Q2) (hn : ∀ E S2 I2 J2, ¬ Q2 (.inr E) S2 I2 J2) (l : Launch) (hl : l.stackTraces = false) : Met l M2.2.1 (q_ws M2) (q_rm d2 c2 s2) (fun a U => a = (av.map (q_cv S.1)).toArray ∧ q_W0 X U U.heap ∧ q_WC X S I J U.heap) (q_Qc X Q2) c2 s2 (q_A X) := by
  intro p e h1 h2 h3 s m args below h4 h5 h6 h7
  obtain ⟨n, o, g1, g2, g3, g4⟩ := h l hl p e h1 h2 h3 s m args below h4 h5 h6 h7
  refine ⟨n, o, g1, g2, g3, ?_⟩
  rcases g4 with g4 | ⟨q, -, E, ce, L, ⟨S2, I2, J2, hx, -⟩, -⟩
  · exact g4
  · exact absurd hx (hn _ _ _ _)
theorem q_run {p : Program} {l : Launch} {e : Env} {R : Room} {s : State} {m : MethodId} {args : Array Value} {below : List Frame} {meth : Method} {c : Code} {H : Heap} {locs : List Loc} {cells slots mc ms : Nat} {g : JFrame} {rest : List Value} {Qa : State → Outcome → State → Prop} {XC : String → State → State → Prop} {free : Addr → Prop} (h : va_Run p l e R s m args below meth c H locs cells slots mc ms g rest Qa free) : vx_Run p l e R s m args below meth c H locs cells slots mc ms g rest Qa XC free := fun T hT XX => Or.inl (h T hT XX)
theorem V_callI {M2 : MD} {d2 c2 s2 q idx : Nat} {As : List Value} {Q2 : QP} (hd : decode M.2.2.1 pc = .ok (.invokespecial idx, 3)) (ok : q_ok M2 As.length) (hh : M2.2.2.2.2.2 = []) (hlk : Cond.methodLink M.1 idx M2.2.1 ∈ q_TB) (hin : Cond.instanceMethod M2.2.1 ∈ q_TB) (hi : M2.2.1.name = "<init>") (hre : M2.2.2.2.2.1 = none)
    (hst : (st.map fun v => v.category).sum ≤ 8) (hdp : d2 + 1 ≤ d) (hc : k + c2 ≤ cT) (hs : n + s2 ≤ sT) (C2 : CX X M2 d2 c2 s2 (.ref q :: As) S I J Q2) (hnt : ∀ E S2 I2 J2, ¬ Q2 (.inr E) S2 I2 J2)
    (hag : ∀ (v : Option Value) (S2 : QS) (I2 : QI) (J2 : QJ), Q2 (.inl v) S2 I2 J2 → q_lc S2.1 lo = q_lc S.1 lo ∧ st.map (q_cv S2.1) = st.map (q_cv S.1))
    (kk : ∀ (v : Option Value) (S2 : QS) (I2 : QI) (J2 : QJ), Q2 (.inl v) S2 I2 J2 → V X M d cT sT Q (pc + 3) lo (v.toList ++ st) S2 I2 J2 (k + c2) (n + s2)) : V X M d cT sT Q pc lo (As.reverse ++ .ref q :: st) S I J k n := by
  intro p l e s m args below meth c H locs ls En W0 WC hS hl
  have hts := En.1.2.2.2.2
  have cb : CallB (q_rm d cT sT) s args M.1 idx M2.2.1 M2.2.2.1 M2.2.2.2.1 none (q_ws M2) (q_rm d2 c2 s2) c2 s2 As.length :=
    callB_of As.length hts (q_good ok) ((q_ws0 hh).trans (by rw [hre])) rfl rfl (hts _ ok.2.2.2.2) (hts _ hlk) ok.2.2.1 (q_room hdp ok.2.2.2.1)
  have hp := q_pre (av := .ref q :: As) (p := p) (l := l) (m := m) (args := args) (meth := meth) (c := c) W0 WC hS
  refine q_after En W0 hS hl hag (fun E S2 I2 J2 h => absurd h (hnt _ _ _ _)) kk (fun E S2 I2 J2 h => absurd h (hnt _ _ _ _)) (q_run (va_runI ⟨En.1.1, En.1.2.1, En.1.2.2.1, En.1.2.2.2.1, hts⟩ (C2.met hnt l En.2.2.2.2.2) ⟨cb, hi, hts _ hin⟩ (b := S.1 q) (As := As.map (q_cv S.1)) hp rfl (List.length_map _) hl.1 q_rev ?_ hd ⟨hc, hs⟩))
  show 2 * 0 + _ ≤ 8
  rw [q_sum]
  omega
theorem V_callSN {M2 : MD} {d2 c2 s2 idx : Nat} {host : String} {As : List Value} {Q2 : QP} (hd : decode M.2.2.1 pc = .ok (.invokestatic idx, 3)) (ok : q_ok M2 As.length) (hh : M2.2.2.2.2.2 = []) (hlk : (M.1, idx, M2.2.1, host) ∈ q_nests) (hstt : Cond.static M2.2.1 ∈ q_TB)
    (hst : (st.map fun v => v.category).sum ≤ 8) (hdp : d2 + 1 ≤ d) (hc : k + c2 ≤ cT) (hs : n + s2 ≤ sT) (C2 : CX X M2 d2 c2 s2 As S I J Q2) (hnt : ∀ E S2 I2 J2, ¬ Q2 (.inr E) S2 I2 J2)
    (hag : ∀ (v : Option Value) (S2 : QS) (I2 : QI) (J2 : QJ), Q2 (.inl v) S2 I2 J2 → q_lc S2.1 lo = q_lc S.1 lo ∧ st.map (q_cv S2.1) = st.map (q_cv S.1))
    (kk : ∀ (v : Option Value) (S2 : QS) (I2 : QI) (J2 : QJ), Q2 (.inl v) S2 I2 J2 → V X M d cT sT Q (pc + 3) lo (v.toList ++ st) S2 I2 J2 (k + c2) (n + s2)) : V X M d cT sT Q pc lo (As.reverse ++ st) S I J k n := by
  intro p l e s m args below meth c H locs ls En W0 WC hS hl
  have hts := En.1.2.2.2.2
  have cb : va_CN (q_rm d cT sT) s args M.1 idx M2.2.1 host M2.2.2.1 M2.2.2.2.1 M2.2.2.2.2.1 (q_ws M2) (q_rm d2 c2 s2) c2 s2 As.length :=
    va_cnB As.length hts (q_good ok) (q_ws0 hh) rfl rfl (W0.2.2.2.2.2.2.2.1 _ hlk) (hts _ ok.2.2.2.2) ok.2.2.1 (q_room hdp ok.2.2.2.1)
  have hp := q_pre (av := As) (p := p) (l := l) (m := m) (args := args) (meth := meth) (c := c) W0 WC hS
  refine q_after En W0 hS hl hag (fun E S2 I2 J2 h => absurd h (hnt _ _ _ _)) kk (fun E S2 I2 J2 h => absurd h (hnt _ _ _ _)) (q_run (va_runSN ⟨En.1.1, En.1.2.1, En.1.2.2.1, En.1.2.2.2.1, hts⟩ (C2.met hnt l En.2.2.2.2.2) ⟨cb, hts _ hstt, trivial⟩ (As := As.map (q_cv S.1)) hp rfl (List.length_map _) hl.1 (by rw [List.map_append, List.map_reverse]) ?_ hd ⟨hc, hs⟩))
  show 2 * 0 + _ ≤ 8
  rw [q_sum]
  omega
/-- a call of a method with a table of its own (static) -/
theorem V_callSX {M2 : MD} {d2 c2 s2 idx : Nat} {As : List Value} {Q2 : QP} (hd : decode M.2.2.1 pc = .ok (.invokestatic idx, 3)) (ok : q_ok M2 As.length) (hh : M2.2.2.2.2.2 ≠ []) (hlk : Cond.methodLink M.1 idx M2.2.1 ∈ q_TB) (hstt : Cond.static M2.2.1 ∈ q_TB)
    (hst : (st.map fun v => v.category).sum ≤ 8) (hdp : d2 + 1 ≤ d) (hc : k + c2 ≤ cT) (hs : n + s2 ≤ sT) (C2 : CX X M2 d2 c2 s2 As S I J Q2)
    (hag : ∀ (v : Option Value) (S2 : QS) (I2 : QI) (J2 : QJ), Q2 (.inl v) S2 I2 J2 → q_lc S2.1 lo = q_lc S.1 lo ∧ st.map (q_cv S2.1) = st.map (q_cv S.1))
    (hagx : ∀ (E : String) (S2 : QS) (I2 : QI) (J2 : QJ), Q2 (.inr E) S2 I2 J2 → q_lc S2.1 lo = q_lc S.1 lo)
    (kk : ∀ (v : Option Value) (S2 : QS) (I2 : QI) (J2 : QJ), Q2 (.inl v) S2 I2 J2 → V X M d cT sT Q (pc + 3) lo (v.toList ++ st) S2 I2 J2 (k + c2) (n + s2))
    (kx : ∀ (E : String) (S2 : QS) (I2 : QI) (J2 : QJ), Q2 (.inr E) S2 I2 J2 → VT X M d cT sT Q pc lo E S2 I2 J2 (k + c2) (n + s2)) : V X M d cT sT Q pc lo (As.reverse ++ st) S I J k n := by
  intro p l e s m args below meth c H locs ls En W0 WC hS hl
  have hts := En.1.2.2.2.2
  have hT : GoodIn q_TB (va_wsS M.1 idx M2.2.1 (q_ws M2)) := by
    intro w hw
    unfold va_wsS at hw
    rcases List.mem_append.mp hw with hw | hw
    · simp only [List.mem_cons, List.not_mem_nil, or_false] at hw
      rcases hw with rfl | rfl | rfl
      · exact ⟨hlk, good_of_word (q_tb_good _ hlk)⟩
      · exact ⟨hstt, good_of_word (q_tb_good _ hstt)⟩
      · exact ⟨ok.2.2.2.2, good_of_word (q_tb_good _ ok.2.2.2.2)⟩
    · exact q_good ok w hw
  have cb : vx_CSW (q_rm d cT sT) s args M.1 idx M2.2.1 M2.2.2.1 M2.2.2.2.1 M2.2.2.2.2.1 M2.2.2.2.2.2 (q_ws M2) (q_rm d2 c2 s2) c2 s2 As.length :=
    vx_cwSW As.length hts hT (q_ws1 hh) rfl rfl ok.2.2.1 (q_room hdp ok.2.2.2.1)
  have hp := q_pre (av := As) (p := p) (l := l) (m := m) (args := args) (meth := meth) (c := c) W0 WC hS
  refine q_after En W0 hS hl hag hagx kk kx (vx_runSX ⟨En.1.1, En.1.2.1, En.1.2.2.1, En.1.2.2.2.1, hts⟩ (C2 l En.2.2.2.2.2) cb (As := As.map (q_cv S.1)) hp rfl (List.length_map _) hl.1 (by rw [List.map_append, List.map_reverse]) ?_ hd ⟨hc, hs⟩)
  show 2 * 0 + _ ≤ 8
  rw [q_sum]
  omega
/-- a body gives its contract -/
theorem CX.of {av : List Value} {np : Nat} (ok : q_ok M np) (hown9 : M.2.1.cls = M.1) (hav : (lg_sl av).length ≤ M.2.2.2.1) (hlo : lv_args 0 av = lo) (kk : V X M d cT sT Q 0 lo [] S I J 0 0) : CX X M d cT sT av S I J Q := by
  intro l hlt
  have hsl : ∀ (ad : Nat → Nat) (vs : List Value), (lg_sl (vs.map (q_cv ad))).length = (lg_sl vs).length := by
    intro ad vs
    induction vs with
    | nil => rfl
    | cons v vs ih =>
      simp only [lg_sl, List.map_cons, List.flatMap_cons, List.length_append, q_cat] at ih ⊢
      rw [ih]
      split <;> rfl
  have hla : ∀ (ad : Nat → Nat) (vs : List Value) (i : Nat), lv_args i (vs.map (q_cv ad)) = q_lc ad (lv_args i vs) := by
    intro ad vs
    induction vs with
    | nil => intro i; rfl
    | cons v vs ih =>
      intro i
      show (i, q_cv ad v) :: lv_args _ _ = (i, q_cv ad v) :: _
      rw [q_cat, ih]
      rfl
  have key : ∀ (p : Program) (e : Env) (s : State) (m : MethodId) (args : Array Value) (below : List Frame) (meth : Method) (c : Code) (s1 : State), BodyLoose p l M.2.1 (headSpec (q_ws M) (q_rm d cT sT)) M.2.2.1 M.2.2.2.1 M.2.2.2.2.1 e s m args below meth c s1 → c.maxLocals = M.2.2.2.1 → c.exceptionTable.toList = tableOf M.2.2.2.2.2 → (args = (av.map (q_cv S.1)).toArray ∧ q_W0 X s s.heap ∧ q_WC X S I J s.heap) →
      W p l e (q_rm d cT sT) s m args below meth c s.heap [] 0 0 (vx_MQ below (q_Qc X Q) (q_Xc X Q) args s cT sT (q_A X)) (entryFrame m args M.2.2.2.1) := by
    intro p e s m args below meth c s1 B hml htab hP
    obtain ⟨rfl, W0, WC⟩ := hP
    have hts := atoms_spec (ws := q_ws M) B.pre
    have hS : va_S (q_A X) s.heap s.heap [] := va_S.rf
    have hl := lv_entry (av.map (q_cv S.1)) (n := M.2.2.2.1) (by rw [hsl]; exact hav)
    rw [lg_entry_eq]
    generalize (lg_sl (av.map (q_cv S.1)) ++ List.replicate (M.2.2.2.1 - (lg_sl (av.map (q_cv S.1))).length) Slot.unset).toArray = ls at hl ⊢
    rw [hla, hlo] at hl
    refine kk p l e s m _ below meth c s.heap [] ls ⟨⟨B.exec, B.bytes, hml, ?_, fun w hw => hts w (List.mem_cons_of_mem _ hw)⟩, B.returns, B.notSynchronized, htab, ?_, hlt⟩ W0 WC hS hl
    · rw [← hown9]
      exact findClass_of_methodNamed B.named
    · exact (name_of_methodNamed B.named B.method).1
  by_cases hh : M.2.2.2.2.2 = []
  · refine vx_ofW (cc := M.2.2.1) (maxL := M.2.2.2.1) (ret := M.2.2.2.2.1) ok.2.1 (q_ws0 hh) ?_
    intro p e s m args below meth c s1 B hml ht hP
    refine key p e s m args below meth c s1 B hml ?_ hP
    rw [hh]
    exact List.eq_nil_iff_forall_not_mem.mpr ht
  · refine vx_ofWH (cc := M.2.2.1) (maxL := M.2.2.2.1) (ret := M.2.2.2.2.1) (hh := M.2.2.2.2.2) ok.2.1 (q_ws1 hh) ?_
    intro p e s m args below meth c s1 B hml hP
    refine key p e s m args below meth c s1 B hml ?_ hP
    refine vx_table (x := M.2.1) (bytes := M.2.2.1) (maxL' := M.2.2.2.1) (ret' := M.2.2.2.2.1) B ?_
    have hts := atoms_spec (ws := q_ws M) B.pre
    exact hts _ (by rw [q_ws1 hh]; exact List.mem_cons_self)
end QC1
