def wX8_listOf_2 (S : QS) (a1 : Int32) (a2 : Int32) (K38 : QI → Prop) (post : Int32 → QS → QI → Prop) : Nat → Int32 → QI → Prop
  | 0, _, _ => False
  | n + 1, x3, I => (((I 51 24) ≤ x3 → (K38 I)) ∧ (¬ (I 51 24) ≤ x3 → (∀ p1 : Nat, S.2.2.2.2 51 25 = some p1 → (vp_in x3 (S.2.2.2.1 p1) ∧ ((¬ (I p1 (x3).toNatClampNeg) = a1 → (∀ v2 : Int32, v2 = (x3 + 1) → (wX8_listOf_2 S a1 a2 K38 post n v2 I))) ∧ ((I p1 (x3).toNatClampNeg) = a1 → (∀ p3 : Nat, S.2.2.2.2 51 26 = some p3 → (vp_in x3 (S.2.2.2.1 p3) ∧ ((¬ (I p3 (x3).toNatClampNeg) = a2 → (∀ v4 : Int32, v4 = (x3 + 1) → (wX8_listOf_2 S a1 a2 K38 post n v4 I))) ∧ ((I p3 (x3).toNatClampNeg) = a2 → post x3 S I))))))))))
set_option maxRecDepth 100000 in
set_option maxHeartbeats 4000000 in
theorem swX8_listOf_2 {X : QX} {S : QS} {a1 : Int32} {a2 : Int32} {J : QJ} {K38 : QI → Prop} {post : Int32 → QS → QI → Prop} {c s D : Nat} (hD : 8 ≤ D) (hA : Sa S) (hK38 : ∀ (I : QI), K38 I → V X mX8_listOf 1 c s (q_Pa S J post) 38 [(0, .ref 51), (1, .int a1), (2, .int a2)] [] S I J 0 0) : ∀ (f : Nat) (x3 : Int32) (I : QI), wX8_listOf_2 S a1 a2 K38 post f x3 I → V X mX8_listOf 1 c s (q_Pa S J post) 2 [(0, .ref 51), (1, .int a1), (2, .int a2), (3, .int x3)] [] S I J 0 0 := by
  have hS := hA.1
  have hE : Ex S S := Ex.rf
  intro f
  induction f with
  | zero => intro x3 I h; exact h.elim
  | succ n ih =>
    intro x3 I h
    replace h : (((I 51 24) ≤ x3 → (K38 I)) ∧ (¬ (I 51 24) ≤ x3 → (∀ p1 : Nat, S.2.2.2.2 51 25 = some p1 → (vp_in x3 (S.2.2.2.1 p1) ∧ ((¬ (I p1 (x3).toNatClampNeg) = a1 → (∀ v2 : Int32, v2 = (x3 + 1) → (wX8_listOf_2 S a1 a2 K38 post n v2 I))) ∧ ((I p1 (x3).toNatClampNeg) = a1 → (∀ p3 : Nat, S.2.2.2.2 51 26 = some p3 → (vp_in x3 (S.2.2.2.1 p3) ∧ ((¬ (I p3 (x3).toNatClampNeg) = a2 → (∀ v4 : Int32, v4 = (x3 + 1) → (wX8_listOf_2 S a1 a2 K38 post n v4 I))) ∧ ((I p3 (x3).toNatClampNeg) = a2 → post x3 S I)))))))))) := h
    refine V_iload_n dX8_listOf_2 rfl rfl ?_
    refine V_aload_n dX8_listOf_3 rfl rfl ?_
    refine V_geti dX8_listOf_4 fl_RX8_208 (hS.n 51 rfl) (hS.k 51 8 rfl) rfl ?_
    refine V_icmp_ge 38 dX8_listOf_7 rfl (fun hc => ?_) (fun hc => ?_)
    · replace h := h.1 hc
      refine V_sub (lo2 := [(0, .ref 51), (1, .int a1), (2, .int a2)]) [0, 1, 2] rfl ?_
      exact hK38 _ h
    · replace h := h.2 hc
      refine V_aload_n dX8_listOf_10 rfl rfl ?_
      obtain ⟨p1, ep1, h7p1, hNp1, hKp1⟩ := hA.2.2.1 25 (by decide)
      refine V_getr dX8_listOf_11 fl_RX8_71 (hS.n 51 rfl) (hS.k 51 8 rfl) rfl ep1 ?_
      replace h := h p1 ep1
      refine V_iload_n dX8_listOf_14 rfl rfl ?_
      obtain ⟨hb, h⟩ := h
      refine V_iald dX8_listOf_15 hNp1 hKp1 hb ?_
      refine V_iload_n dX8_listOf_16 rfl rfl ?_
      refine V_icmp_ne 32 dX8_listOf_17 rfl (fun hc => ?_) (fun hc => ?_)
      · replace h := h.1 hc
        obtain ⟨v2, e_v2⟩ : ∃ z : Int32, z = (x3 + 1) := ⟨_, rfl⟩
        replace h := h v2 e_v2
        refine V_iinc (lo2 := [(3, .int v2), (0, .ref 51), (1, .int a1), (2, .int a2)]) 3 dX8_listOf_32 rfl (v := v2) (by rw [e_v2]; first | done | rfl) (by decide) rfl ?_
        refine V_goto 2 dX8_listOf_35 rfl ?_
        refine V_sub (lo2 := [(0, .ref 51), (1, .int a1), (2, .int a2), (3, .int v2)]) [1, 2, 3, 0] rfl ?_
        exact ih _ _ h
      · replace h := h.2 hc
        refine V_aload_n dX8_listOf_20 rfl rfl ?_
        obtain ⟨p3, ep3, h7p3, hNp3, hKp3⟩ := hA.2.2.1 26 (by decide)
        refine V_getr dX8_listOf_21 fl_RX8_74 (hS.n 51 rfl) (hS.k 51 8 rfl) rfl ep3 ?_
        replace h := h p3 ep3
        refine V_iload_n dX8_listOf_24 rfl rfl ?_
        obtain ⟨hb, h⟩ := h
        refine V_iald dX8_listOf_25 hNp3 hKp3 hb ?_
        refine V_iload_n dX8_listOf_26 rfl rfl ?_
        refine V_icmp_ne 32 dX8_listOf_27 rfl (fun hc => ?_) (fun hc => ?_)
        · replace h := h.1 hc
          obtain ⟨v4, e_v4⟩ : ∃ z : Int32, z = (x3 + 1) := ⟨_, rfl⟩
          replace h := h v4 e_v4
          refine V_iinc (lo2 := [(3, .int v4), (0, .ref 51), (1, .int a1), (2, .int a2)]) 3 dX8_listOf_32 rfl (v := v4) (by rw [e_v4]; first | done | rfl) (by decide) rfl ?_
          refine V_goto 2 dX8_listOf_35 rfl ?_
          refine V_sub (lo2 := [(0, .ref 51), (1, .int a1), (2, .int a2), (3, .int v4)]) [1, 2, 3, 0] rfl ?_
          exact ih _ _ h
        · replace h := h.2 hc
          refine V_iload_n dX8_listOf_30 rfl rfl ?_
          exact V_iret dX8_listOf_31 rfl (by omega) (by omega) ⟨_, rfl, rfl, hA, hE, h⟩
def wX8_listOf (a1 : Int32) (a2 : Int32) (S : QS) (I : QI) (c s : Nat) (post : Int32 → QS → QI → Prop) : Prop := (∃ f : Nat, wX8_listOf_2 S a1 a2 (fun I5 => (∀ p6 : Nat, S.2.2.2.2 51 25 = some p6 → ((¬ (I5 51 24) = (Int32.ofNat (S.2.2.2.1 p6)) → (∀ p7 : Nat, S.2.2.2.2 51 25 = some p7 → (vp_in (I5 51 24) (S.2.2.2.1 p7) ∧ (∀ I8 : QI, I8 = q_u2 I5 p7 ((I5 51 24)).toNatClampNeg a1 → (∀ p9 : Nat, S.2.2.2.2 51 26 = some p9 → (vp_in (I8 51 24) (S.2.2.2.1 p9) ∧ (∀ I10 : QI, I10 = q_u2 I8 p9 ((I8 51 24)).toNatClampNeg a2 → (∀ I11 : QI, I11 = q_u2 I10 51 24 ((I10 51 24) + 1) → post ((I11 51 24) - 1) S I11)))))))) ∧ ((I5 51 24) = (Int32.ofNat (S.2.2.2.1 p6)) → (∀ p12 : Nat, S.2.2.2.2 51 25 = some p12 → (∃ c1 s1 : Nat, (0) + c1 ≤ c ∧ (0) + s1 ≤ s ∧ wX8_longer p12 S I5 c1 s1 (fun p13 S14 I15 => (∀ S17 : QS, S17 = q_sR S14 (q_u2 S14.2.2.2.2 51 25 (some p13)) → (∀ p18 : Nat, S17.2.2.2.2 51 26 = some p18 → (∃ c2 s2 : Nat, (0 + c1) + c2 ≤ c ∧ (0 + s1) + s2 ≤ s ∧ wX8_longer p18 S17 I15 c2 s2 (fun p19 S20 I21 => (∀ S23 : QS, S23 = q_sR S20 (q_u2 S20.2.2.2.2 51 26 (some p19)) → (∀ p24 : Nat, S23.2.2.2.2 51 25 = some p24 → (vp_in (I21 51 24) (S23.2.2.2.1 p24) ∧ (∀ I25 : QI, I25 = q_u2 I21 p24 ((I21 51 24)).toNatClampNeg a1 → (∀ p26 : Nat, S23.2.2.2.2 51 26 = some p26 → (vp_in (I25 51 24) (S23.2.2.2.1 p26) ∧ (∀ I27 : QI, I27 = q_u2 I25 p26 ((I25 51 24)).toNatClampNeg a2 → (∀ I28 : QI, I28 = q_u2 I27 51 24 ((I27 51 24) + 1) → post ((I28 51 24) - 1) S23 I28))))))))))))))))))) post f 0 I)
set_option maxRecDepth 100000 in
set_option maxHeartbeats 4000000 in
theorem s_mX8_listOf {X : QX} {S : QS} {a1 a2 : Int32} {I : QI} {J : QJ} {c s : Nat} {post : Int32 → QS → QI → Prop} (hA : Sa S) (h : wX8_listOf a1 a2 S I c s post) : CX X mX8_listOf 1 c s [.ref 51, .int a1, .int a2] S I J (q_Pa S J post) := by
  have hS := hA.1
  have hE : Ex S S := Ex.rf
  refine CX.of (lo := [(0, .ref 51), (1, .int a1), (2, .int a2)]) ok_mX8_listOf rfl (Nat.le_of_ble_eq_true rfl) rfl ?_
  replace h : (∃ f : Nat, wX8_listOf_2 S a1 a2 (fun I5 => (∀ p6 : Nat, S.2.2.2.2 51 25 = some p6 → ((¬ (I5 51 24) = (Int32.ofNat (S.2.2.2.1 p6)) → (∀ p7 : Nat, S.2.2.2.2 51 25 = some p7 → (vp_in (I5 51 24) (S.2.2.2.1 p7) ∧ (∀ I8 : QI, I8 = q_u2 I5 p7 ((I5 51 24)).toNatClampNeg a1 → (∀ p9 : Nat, S.2.2.2.2 51 26 = some p9 → (vp_in (I8 51 24) (S.2.2.2.1 p9) ∧ (∀ I10 : QI, I10 = q_u2 I8 p9 ((I8 51 24)).toNatClampNeg a2 → (∀ I11 : QI, I11 = q_u2 I10 51 24 ((I10 51 24) + 1) → post ((I11 51 24) - 1) S I11)))))))) ∧ ((I5 51 24) = (Int32.ofNat (S.2.2.2.1 p6)) → (∀ p12 : Nat, S.2.2.2.2 51 25 = some p12 → (∃ c1 s1 : Nat, (0) + c1 ≤ c ∧ (0) + s1 ≤ s ∧ wX8_longer p12 S I5 c1 s1 (fun p13 S14 I15 => (∀ S17 : QS, S17 = q_sR S14 (q_u2 S14.2.2.2.2 51 25 (some p13)) → (∀ p18 : Nat, S17.2.2.2.2 51 26 = some p18 → (∃ c2 s2 : Nat, (0 + c1) + c2 ≤ c ∧ (0 + s1) + s2 ≤ s ∧ wX8_longer p18 S17 I15 c2 s2 (fun p19 S20 I21 => (∀ S23 : QS, S23 = q_sR S20 (q_u2 S20.2.2.2.2 51 26 (some p19)) → (∀ p24 : Nat, S23.2.2.2.2 51 25 = some p24 → (vp_in (I21 51 24) (S23.2.2.2.1 p24) ∧ (∀ I25 : QI, I25 = q_u2 I21 p24 ((I21 51 24)).toNatClampNeg a1 → (∀ p26 : Nat, S23.2.2.2.2 51 26 = some p26 → (vp_in (I25 51 24) (S23.2.2.2.1 p26) ∧ (∀ I27 : QI, I27 = q_u2 I25 p26 ((I25 51 24)).toNatClampNeg a2 → (∀ I28 : QI, I28 = q_u2 I27 51 24 ((I27 51 24) + 1) → post ((I28 51 24) - 1) S23 I28))))))))))))))))))) post f 0 I) := h
  refine V_iconst (v := 0) dX8_listOf_0 (by decide) ?_
  refine V_istore_n (lo2 := [(3, .int 0), (0, .ref 51), (1, .int a1), (2, .int a2)]) dX8_listOf_1 rfl (by decide) rfl ?_
  refine V_sub (lo2 := [(0, .ref 51), (1, .int a1), (2, .int a2), (3, .int 0)]) [1, 2, 3, 0] rfl ?_
  obtain ⟨f9, h⟩ := h
  refine swX8_listOf_2 (D := 8) (by omega) hA ?_ f9 _ _ h
  · intro I5 h
    refine V_aload_n dX8_listOf_38 rfl rfl ?_
    refine V_geti dX8_listOf_39 fl_RX8_208 (hS.n 51 rfl) (hS.k 51 8 rfl) rfl ?_
    refine V_aload_n dX8_listOf_42 rfl rfl ?_
    obtain ⟨p6, ep6, h7p6, hNp6, hKp6⟩ := hA.2.2.1 25 (by decide)
    refine V_getr dX8_listOf_43 fl_RX8_71 (hS.n 51 rfl) (hS.k 51 8 rfl) rfl ep6 ?_
    replace h := h p6 ep6
    refine V_alenI (v := Int32.ofNat (S.2.2.2.1 p6)) dX8_listOf_46 hNp6 hKp6 rfl ?_
    refine V_icmp_ne 72 dX8_listOf_47 rfl (fun hc => ?_) (fun hc => ?_)
    · replace h := h.1 hc
      refine V_aload_n dX8_listOf_72 rfl rfl ?_
      obtain ⟨p7, ep7, h7p7, hNp7, hKp7⟩ := hA.2.2.1 25 (by decide)
      refine V_getr dX8_listOf_73 fl_RX8_71 (hS.n 51 rfl) (hS.k 51 8 rfl) rfl ep7 ?_
      replace h := h p7 ep7
      refine V_aload_n dX8_listOf_76 rfl rfl ?_
      refine V_geti dX8_listOf_77 fl_RX8_208 (hS.n 51 rfl) (hS.k 51 8 rfl) rfl ?_
      refine V_iload_n dX8_listOf_80 rfl rfl ?_
      obtain ⟨hb, h⟩ := h
      refine V_iast dX8_listOf_81 hNp7 hKp7 hb ?_
      refine V_memI (fun I8 e_I8 => ?_)
      replace h := h I8 e_I8
      refine V_aload_n dX8_listOf_82 rfl rfl ?_
      obtain ⟨p9, ep9, h7p9, hNp9, hKp9⟩ := hA.2.2.1 26 (by decide)
      refine V_getr dX8_listOf_83 fl_RX8_74 (hS.n 51 rfl) (hS.k 51 8 rfl) rfl ep9 ?_
      replace h := h p9 ep9
      refine V_aload_n dX8_listOf_86 rfl rfl ?_
      refine V_geti dX8_listOf_87 fl_RX8_208 (hS.n 51 rfl) (hS.k 51 8 rfl) rfl ?_
      refine V_iload_n dX8_listOf_90 rfl rfl ?_
      obtain ⟨hb, h⟩ := h
      refine V_iast dX8_listOf_91 hNp9 hKp9 hb ?_
      refine V_memI (fun I10 e_I10 => ?_)
      replace h := h I10 e_I10
      refine V_aload_n dX8_listOf_92 rfl rfl ?_
      refine V_dup dX8_listOf_93 rfl ?_
      refine V_geti dX8_listOf_94 fl_RX8_208 (hS.n 51 rfl) (hS.k 51 8 rfl) rfl ?_
      refine V_iconst (v := 1) dX8_listOf_97 (by decide) ?_
      refine V_iadd dX8_listOf_98 ?_
      refine V_puti dX8_listOf_99 fl_RX8_208 rfl (hS.n 51 rfl) (hS.k 51 8 rfl) rfl rfl rfl ?_
      refine V_memI (fun I11 e_I11 => ?_)
      replace h := h I11 e_I11
      refine V_aload_n dX8_listOf_102 rfl rfl ?_
      refine V_geti dX8_listOf_103 fl_RX8_208 (hS.n 51 rfl) (hS.k 51 8 rfl) rfl ?_
      refine V_iconst (v := 1) dX8_listOf_106 (by decide) ?_
      refine V_isub dX8_listOf_107 ?_
      exact V_iret dX8_listOf_108 rfl (by omega) (by omega) ⟨_, rfl, rfl, hA, hE, h⟩
    · replace h := h.2 hc
      refine V_aload_n dX8_listOf_50 rfl rfl ?_
      refine V_aload_n dX8_listOf_51 rfl rfl ?_
      obtain ⟨p12, ep12, h7p12, hNp12, hKp12⟩ := hA.2.2.1 25 (by decide)
      refine V_getr dX8_listOf_52 fl_RX8_71 (hS.n 51 rfl) (hS.k 51 8 rfl) rfl ep12 ?_
      replace h := h p12 ep12
      obtain ⟨c1, s1, hcc1, hss1, h⟩ := h
      refine V_callSg (st := [.ref 51]) [.ref p12] dX8_listOf_55 ok_mX8_longer rfl ml_RX8_211 st_mX8_longer (Nat.le_of_ble_eq_true rfl) (by omega) hcc1 hss1 (q_vb80 hS rfl) (q_vb80 hS rfl) (s_mX8_longer hA hNp12 hKp12 h) (fun p13 S14 I15 hA9 hE9 h7p13 hNp13 hKp13 h => ?_)
      replace hE9 := hE.tr hE9
      clear hA hE hS
      have hA := hA9
      have hE := hE9
      have hS := hA.1
      refine V_putr dX8_listOf_58 fl_RX8_71 rfl (hS.n 51 rfl) (hS.k 51 8 rfl) rfl (fun _ => rfl) (fun _ => rfl) ?_
      have hA9 := hA.put (j := 25) (by decide) h7p13 hNp13 hKp13
      have hE9 := hE.tr (Ex.put S14 (q_u2 S14.2.2.2.2 51 25 (some p13)))
      refine V_memS (fun S17 e_S17 => ?_)
      rw [← e_S17] at hA9 hE9
      replace h := h S17 e_S17
      clear hA hE hS
      have hA := hA9
      have hE := hE9
      have hS := hA.1
      refine V_aload_n dX8_listOf_61 rfl rfl ?_
      refine V_aload_n dX8_listOf_62 rfl rfl ?_
      obtain ⟨p18, ep18, h7p18, hNp18, hKp18⟩ := hA.2.2.1 26 (by decide)
      refine V_getr dX8_listOf_63 fl_RX8_74 (hS.n 51 rfl) (hS.k 51 8 rfl) rfl ep18 ?_
      replace h := h p18 ep18
      obtain ⟨c2, s2, hcc2, hss2, h⟩ := h
      refine V_callSg (st := [.ref 51]) [.ref p18] dX8_listOf_66 ok_mX8_longer rfl ml_RX8_211 st_mX8_longer (Nat.le_of_ble_eq_true rfl) (by omega) hcc2 hss2 (q_vb80 hS rfl) (q_vb80 hS rfl) (s_mX8_longer hA hNp18 hKp18 h) (fun p19 S20 I21 hA9 hE9 h7p19 hNp19 hKp19 h => ?_)
      replace hE9 := hE.tr hE9
      clear hA hE hS
      have hA := hA9
      have hE := hE9
      have hS := hA.1
      refine V_putr dX8_listOf_69 fl_RX8_74 rfl (hS.n 51 rfl) (hS.k 51 8 rfl) rfl (fun _ => rfl) (fun _ => rfl) ?_
      have hA9 := hA.put (j := 26) (by decide) h7p19 hNp19 hKp19
      have hE9 := hE.tr (Ex.put S20 (q_u2 S20.2.2.2.2 51 26 (some p19)))
      refine V_memS (fun S23 e_S23 => ?_)
      rw [← e_S23] at hA9 hE9
      replace h := h S23 e_S23
      clear hA hE hS
      have hA := hA9
      have hE := hE9
      have hS := hA.1
      refine V_aload_n dX8_listOf_72 rfl rfl ?_
      obtain ⟨p24, ep24, h7p24, hNp24, hKp24⟩ := hA.2.2.1 25 (by decide)
      refine V_getr dX8_listOf_73 fl_RX8_71 (hS.n 51 rfl) (hS.k 51 8 rfl) rfl ep24 ?_
      replace h := h p24 ep24
      refine V_aload_n dX8_listOf_76 rfl rfl ?_
      refine V_geti dX8_listOf_77 fl_RX8_208 (hS.n 51 rfl) (hS.k 51 8 rfl) rfl ?_
      refine V_iload_n dX8_listOf_80 rfl rfl ?_
      obtain ⟨hb, h⟩ := h
      refine V_iast dX8_listOf_81 hNp24 hKp24 hb ?_
      refine V_memI (fun I25 e_I25 => ?_)
      replace h := h I25 e_I25
      refine V_aload_n dX8_listOf_82 rfl rfl ?_
      obtain ⟨p26, ep26, h7p26, hNp26, hKp26⟩ := hA.2.2.1 26 (by decide)
      refine V_getr dX8_listOf_83 fl_RX8_74 (hS.n 51 rfl) (hS.k 51 8 rfl) rfl ep26 ?_
      replace h := h p26 ep26
      refine V_aload_n dX8_listOf_86 rfl rfl ?_
      refine V_geti dX8_listOf_87 fl_RX8_208 (hS.n 51 rfl) (hS.k 51 8 rfl) rfl ?_
      refine V_iload_n dX8_listOf_90 rfl rfl ?_
      obtain ⟨hb, h⟩ := h
      refine V_iast dX8_listOf_91 hNp26 hKp26 hb ?_
      refine V_memI (fun I27 e_I27 => ?_)
      replace h := h I27 e_I27
      refine V_aload_n dX8_listOf_92 rfl rfl ?_
      refine V_dup dX8_listOf_93 rfl ?_
      refine V_geti dX8_listOf_94 fl_RX8_208 (hS.n 51 rfl) (hS.k 51 8 rfl) rfl ?_
      refine V_iconst (v := 1) dX8_listOf_97 (by decide) ?_
      refine V_iadd dX8_listOf_98 ?_
      refine V_puti dX8_listOf_99 fl_RX8_208 rfl (hS.n 51 rfl) (hS.k 51 8 rfl) rfl rfl rfl ?_
      refine V_memI (fun I28 e_I28 => ?_)
      replace h := h I28 e_I28
      refine V_aload_n dX8_listOf_102 rfl rfl ?_
      refine V_geti dX8_listOf_103 fl_RX8_208 (hS.n 51 rfl) (hS.k 51 8 rfl) rfl ?_
      refine V_iconst (v := 1) dX8_listOf_106 (by decide) ?_
      refine V_isub dX8_listOf_107 ?_
      exact V_iret dX8_listOf_108 rfl (by omega) (by omega) ⟨_, rfl, rfl, hA, hE, h⟩
def wX8_partOf : Nat → Int32 → Int32 → Int32 → Int32 → QS → QI → Nat → Nat → (Int32 → QS → QI → Prop) → Prop
  | 0, _, _, _, _, _, _, _, _, _ => False
  | n + 1, a1, a2, a3, a4, S, I, c, s, post => ((¬ a1 = (-1) → (∀ p1 : Nat, S.2.2.2.2 51 25 = some p1 → (vp_in a1 (S.2.2.2.1 p1) ∧ (∀ v2 : Int32, v2 = (I p1 (a1).toNatClampNeg) → (wX8_sticks a2 v2 a4 I (fun r3 => (∀ p4 : Nat, S.2.2.2.2 51 26 = some p4 → (vp_in a1 (S.2.2.2.1 p4) ∧ ((r3 = 0 → (∃ c1 s1 : Nat, (0) + c1 ≤ c ∧ (0) + s1 ≤ s ∧ wX8_partOf n (I p4 (a1).toNatClampNeg) a2 a3 a4 S I c1 s1 (fun r5 S6 I7 => ((¬ r3 = 0 → post r5 S6 I7) ∧ (r3 = 0 → (wX8_isOfSecond a2 v2 I7 (fun r8 => ((r8 = a3 → ((a3 = 0 → (∃ c2 s2 : Nat, (0 + c1) + c2 ≤ c ∧ (0 + s1) + s2 ≤ s ∧ wX8_listOf v2 r5 S6 I7 c2 s2 (fun r9 S10 I11 => post r9 S10 I11))) ∧ (¬ a3 = 0 → (vp_in a2 24 ∧ (vp_in (I7 56 (a2).toNatClampNeg) 24 ∧ (∃ c3 s3 : Nat, (0 + c1) + c3 ≤ c ∧ (0 + s1) + s3 ≤ s ∧ wX8_listOf (v2 - (1200 * (I7 61 ((I7 56 (a2).toNatClampNeg)).toNatClampNeg))) r5 S6 I7 c3 s3 (fun r12 S13 I14 => post r12 S13 I14))))))) ∧ (¬ r8 = a3 → post r5 S6 I7))))))))) ∧ (¬ r3 = 0 → ((v2 ≤ a4 → (∃ c4 s4 : Nat, (0) + c4 ≤ c ∧ (0) + s4 ≤ s ∧ wX8_partOf n (I p4 (a1).toNatClampNeg) a2 a3 a4 S I c4 s4 (fun r15 S16 I17 => ((¬ r3 = 0 → post r15 S16 I17) ∧ (r3 = 0 → (wX8_isOfSecond a2 v2 I17 (fun r18 => ((r18 = a3 → ((a3 = 0 → (∃ c5 s5 : Nat, (0 + c4) + c5 ≤ c ∧ (0 + s4) + s5 ≤ s ∧ wX8_listOf v2 r15 S16 I17 c5 s5 (fun r19 S20 I21 => post r19 S20 I21))) ∧ (¬ a3 = 0 → (vp_in a2 24 ∧ (vp_in (I17 56 (a2).toNatClampNeg) 24 ∧ (∃ c6 s6 : Nat, (0 + c4) + c6 ≤ c ∧ (0 + s4) + s6 ≤ s ∧ wX8_listOf (v2 - (1200 * (I17 61 ((I17 56 (a2).toNatClampNeg)).toNatClampNeg))) r15 S16 I17 c6 s6 (fun r22 S23 I24 => post r22 S23 I24))))))) ∧ (¬ r18 = a3 → post r15 S16 I17))))))))) ∧ (¬ v2 ≤ a4 → (∃ c7 s7 : Nat, (0) + c7 ≤ c ∧ (0) + s7 ≤ s ∧ wX8_partOf n (I p4 (a1).toNatClampNeg) a2 a3 v2 S I c7 s7 (fun r25 S26 I27 => ((¬ r3 = 0 → post r25 S26 I27) ∧ (r3 = 0 → (wX8_isOfSecond a2 v2 I27 (fun r28 => ((r28 = a3 → ((a3 = 0 → (∃ c8 s8 : Nat, (0 + c7) + c8 ≤ c ∧ (0 + s7) + s8 ≤ s ∧ wX8_listOf v2 r25 S26 I27 c8 s8 (fun r29 S30 I31 => post r29 S30 I31))) ∧ (¬ a3 = 0 → (vp_in a2 24 ∧ (vp_in (I27 56 (a2).toNatClampNeg) 24 ∧ (∃ c9 s9 : Nat, (0 + c7) + c9 ≤ c ∧ (0 + s7) + s9 ≤ s ∧ wX8_listOf (v2 - (1200 * (I27 61 ((I27 56 (a2).toNatClampNeg)).toNatClampNeg))) r25 S26 I27 c9 s9 (fun r32 S33 I34 => post r32 S33 I34))))))) ∧ (¬ r28 = a3 → post r25 S26 I27)))))))))))))))))))) ∧ (a1 = (-1) → post (-1) S I))
set_option maxRecDepth 100000 in
set_option maxHeartbeats 4000000 in
theorem s_mX8_partOf {X : QX} : ∀ (n : Nat) (a1 : Int32) (a2 : Int32) (a3 : Int32) (a4 : Int32) (S : QS) (I : QI) (J : QJ) (c s : Nat) (post : Int32 → QS → QI → Prop), Sa S → wX8_partOf n a1 a2 a3 a4 S I c s post → CX X mX8_partOf (12 + n) c s [.ref 51, .int a1, .int a2, .int a3, .int a4] S I J (q_Pa S J post) := by
  intro n
  induction n with
  | zero => intro a1 a2 a3 a4 S I J c s post hA h; exact h.elim
  | succ n ih =>
    intro a1 a2 a3 a4 S I J c s post hA h
    show CX X mX8_partOf (12 + n + 1) c s _ S I J _
    have hD : 12 ≤ 12 + n := Nat.le_add_right _ _
    generalize 12 + n = D at hD ih ⊢
    have hS := hA.1
    have hE : Ex S S := Ex.rf
    refine CX.of (lo := [(0, .ref 51), (1, .int a1), (2, .int a2), (3, .int a3), (4, .int a4)]) ok_mX8_partOf rfl (Nat.le_of_ble_eq_true rfl) rfl ?_
    replace h : ((¬ a1 = (-1) → (∀ p1 : Nat, S.2.2.2.2 51 25 = some p1 → (vp_in a1 (S.2.2.2.1 p1) ∧ (∀ v2 : Int32, v2 = (I p1 (a1).toNatClampNeg) → (wX8_sticks a2 v2 a4 I (fun r3 => (∀ p4 : Nat, S.2.2.2.2 51 26 = some p4 → (vp_in a1 (S.2.2.2.1 p4) ∧ ((r3 = 0 → (∃ c1 s1 : Nat, (0) + c1 ≤ c ∧ (0) + s1 ≤ s ∧ wX8_partOf n (I p4 (a1).toNatClampNeg) a2 a3 a4 S I c1 s1 (fun r5 S6 I7 => ((¬ r3 = 0 → post r5 S6 I7) ∧ (r3 = 0 → (wX8_isOfSecond a2 v2 I7 (fun r8 => ((r8 = a3 → ((a3 = 0 → (∃ c2 s2 : Nat, (0 + c1) + c2 ≤ c ∧ (0 + s1) + s2 ≤ s ∧ wX8_listOf v2 r5 S6 I7 c2 s2 (fun r9 S10 I11 => post r9 S10 I11))) ∧ (¬ a3 = 0 → (vp_in a2 24 ∧ (vp_in (I7 56 (a2).toNatClampNeg) 24 ∧ (∃ c3 s3 : Nat, (0 + c1) + c3 ≤ c ∧ (0 + s1) + s3 ≤ s ∧ wX8_listOf (v2 - (1200 * (I7 61 ((I7 56 (a2).toNatClampNeg)).toNatClampNeg))) r5 S6 I7 c3 s3 (fun r12 S13 I14 => post r12 S13 I14))))))) ∧ (¬ r8 = a3 → post r5 S6 I7))))))))) ∧ (¬ r3 = 0 → ((v2 ≤ a4 → (∃ c4 s4 : Nat, (0) + c4 ≤ c ∧ (0) + s4 ≤ s ∧ wX8_partOf n (I p4 (a1).toNatClampNeg) a2 a3 a4 S I c4 s4 (fun r15 S16 I17 => ((¬ r3 = 0 → post r15 S16 I17) ∧ (r3 = 0 → (wX8_isOfSecond a2 v2 I17 (fun r18 => ((r18 = a3 → ((a3 = 0 → (∃ c5 s5 : Nat, (0 + c4) + c5 ≤ c ∧ (0 + s4) + s5 ≤ s ∧ wX8_listOf v2 r15 S16 I17 c5 s5 (fun r19 S20 I21 => post r19 S20 I21))) ∧ (¬ a3 = 0 → (vp_in a2 24 ∧ (vp_in (I17 56 (a2).toNatClampNeg) 24 ∧ (∃ c6 s6 : Nat, (0 + c4) + c6 ≤ c ∧ (0 + s4) + s6 ≤ s ∧ wX8_listOf (v2 - (1200 * (I17 61 ((I17 56 (a2).toNatClampNeg)).toNatClampNeg))) r15 S16 I17 c6 s6 (fun r22 S23 I24 => post r22 S23 I24))))))) ∧ (¬ r18 = a3 → post r15 S16 I17))))))))) ∧ (¬ v2 ≤ a4 → (∃ c7 s7 : Nat, (0) + c7 ≤ c ∧ (0) + s7 ≤ s ∧ wX8_partOf n (I p4 (a1).toNatClampNeg) a2 a3 v2 S I c7 s7 (fun r25 S26 I27 => ((¬ r3 = 0 → post r25 S26 I27) ∧ (r3 = 0 → (wX8_isOfSecond a2 v2 I27 (fun r28 => ((r28 = a3 → ((a3 = 0 → (∃ c8 s8 : Nat, (0 + c7) + c8 ≤ c ∧ (0 + s7) + s8 ≤ s ∧ wX8_listOf v2 r25 S26 I27 c8 s8 (fun r29 S30 I31 => post r29 S30 I31))) ∧ (¬ a3 = 0 → (vp_in a2 24 ∧ (vp_in (I27 56 (a2).toNatClampNeg) 24 ∧ (∃ c9 s9 : Nat, (0 + c7) + c9 ≤ c ∧ (0 + s7) + s9 ≤ s ∧ wX8_listOf (v2 - (1200 * (I27 61 ((I27 56 (a2).toNatClampNeg)).toNatClampNeg))) r25 S26 I27 c9 s9 (fun r32 S33 I34 => post r32 S33 I34))))))) ∧ (¬ r28 = a3 → post r25 S26 I27)))))))))))))))))))) ∧ (a1 = (-1) → post (-1) S I)) := h
    refine V_iload_n dX8_partOf_0 rfl rfl ?_
    refine V_iconst (v := (-1)) dX8_partOf_1 (by decide) ?_
    refine V_icmp_ne 7 dX8_partOf_2 rfl (fun hc => ?_) (fun hc => ?_)
    · replace h := h.1 hc
      refine V_aload_n dX8_partOf_7 rfl rfl ?_
      obtain ⟨p1, ep1, h7p1, hNp1, hKp1⟩ := hA.2.2.1 25 (by decide)
      refine V_getr dX8_partOf_8 fl_RX8_71 (hS.n 51 rfl) (hS.k 51 8 rfl) rfl ep1 ?_
      replace h := h p1 ep1
      refine V_iload_n dX8_partOf_11 rfl rfl ?_
      obtain ⟨hb, h⟩ := h
      refine V_iald dX8_partOf_12 hNp1 hKp1 hb ?_
      refine V_topi (fun v2 e_v2 => ?_)
      replace h := h v2 e_v2
      refine V_istore (lo2 := [(5, .int v2), (0, .ref 51), (1, .int a1), (2, .int a2), (3, .int a3), (4, .int a4)]) dX8_partOf_13 (by decide) rfl ?_
      refine V_aload_n dX8_partOf_15 rfl rfl ?_
      refine V_iload_n dX8_partOf_16 rfl rfl ?_
      refine V_iload dX8_partOf_17 rfl ?_
      refine V_iload dX8_partOf_19 rfl ?_
      refine V_callVi (st := []) [.int a2, .int v2, .int a4] dX8_partOf_21 ok_mX8_sticks rfl ml_RX8_218 in_mX8_sticks se_mX8_sticks (hS.n 51 rfl) (hS.k 51 8 rfl) (by decide) rfl (Nat.le_of_ble_eq_true rfl) (by omega) (by omega) (by omega) (s_mX8_sticks hS h) (fun r3 I9 J9 h => ?_)
      obtain ⟨rfl, rfl, h⟩ := h
      refine V_istore (lo2 := [(6, .int r3), (5, .int v2), (0, .ref 51), (1, .int a1), (2, .int a2), (3, .int a3), (4, .int a4)]) dX8_partOf_24 (by decide) rfl ?_
      refine V_aload_n dX8_partOf_26 rfl rfl ?_
      refine V_aload_n dX8_partOf_27 rfl rfl ?_
      obtain ⟨p4, ep4, h7p4, hNp4, hKp4⟩ := hA.2.2.1 26 (by decide)
      refine V_getr dX8_partOf_28 fl_RX8_74 (hS.n 51 rfl) (hS.k 51 8 rfl) rfl ep4 ?_
      replace h := h p4 ep4
      refine V_iload_n dX8_partOf_31 rfl rfl ?_
      obtain ⟨hb, h⟩ := h
      refine V_iald dX8_partOf_32 hNp4 hKp4 hb ?_
      refine V_iload_n dX8_partOf_33 rfl rfl ?_
      refine V_iload_n dX8_partOf_34 rfl rfl ?_
      refine V_iload dX8_partOf_35 rfl ?_
      refine V_if_eq 52 dX8_partOf_37 rfl (fun hc => ?_) (fun hc => ?_)
      · replace h := h.1 hc
        refine V_iload dX8_partOf_52 rfl ?_
        obtain ⟨c1, s1, hcc1, hss1, h⟩ := h
        refine V_callVa (st := []) [.int (I p4 (a1).toNatClampNeg), .int a2, .int a3, .int a4] dX8_partOf_54 ok_mX8_partOf rfl ml_RX8_221 in_mX8_partOf se_mX8_partOf (hS.n 51 rfl) (hS.k 51 8 rfl) (by decide) rfl (Nat.le_of_ble_eq_true rfl) (by omega) hcc1 hss1 (q_vb80 hS rfl) (q_vb80 hS rfl) (ih _ _ _ _ _ _ _ _ _ _ hA h) (fun r5 S6 I7 hA9 hE9 h => ?_)
        replace hE9 := hE.tr hE9
        clear hA hE hS
        have hA := hA9
        have hE := hE9
        have hS := hA.1
        refine V_istore (lo2 := [(7, .int r5), (6, .int r3), (5, .int v2), (0, .ref 51), (1, .int a1), (2, .int a2), (3, .int a3), (4, .int a4)]) dX8_partOf_57 (by decide) rfl ?_
        refine V_iload dX8_partOf_59 rfl ?_
        refine V_if_ne 75 dX8_partOf_61 rfl (fun hc => ?_) (fun hc => ?_)
        · replace h := h.1 hc
          refine V_iload dX8_partOf_75 rfl ?_
          exact V_iret dX8_partOf_77 rfl (by omega) (by omega) ⟨_, rfl, rfl, hA, hE, h⟩
        · replace h := h.2 hc
          refine V_aload_n dX8_partOf_64 rfl rfl ?_
          refine V_iload_n dX8_partOf_65 rfl rfl ?_
          refine V_iload dX8_partOf_66 rfl ?_
          refine V_callVi (st := []) [.int a2, .int v2] dX8_partOf_68 ok_mX8_isOfSecond rfl ml_RX8_215 in_mX8_isOfSecond se_mX8_isOfSecond (hS.n 51 rfl) (hS.k 51 8 rfl) (by decide) rfl (Nat.le_of_ble_eq_true rfl) (by omega) (by omega) (by omega) (s_mX8_isOfSecond hS h) (fun r8 I9 J9 h => ?_)
          obtain ⟨rfl, rfl, h⟩ := h
          refine V_iload_n dX8_partOf_71 rfl rfl ?_
          refine V_icmp_eq 78 dX8_partOf_72 rfl (fun hc => ?_) (fun hc => ?_)
          · replace h := h.1 hc
            refine V_aload_n dX8_partOf_78 rfl rfl ?_
            refine V_iload_n dX8_partOf_79 rfl rfl ?_
            refine V_if_eq 104 dX8_partOf_80 rfl (fun hc => ?_) (fun hc => ?_)
            · replace h := h.1 hc
              refine V_iload dX8_partOf_104 rfl ?_
              refine V_iload dX8_partOf_106 rfl ?_
              obtain ⟨c2, s2, hcc2, hss2, h⟩ := h
              refine V_callVa (st := []) [.int v2, .int r5] dX8_partOf_108 ok_mX8_listOf rfl ml_RX8_225 in_mX8_listOf se_mX8_listOf (hS.n 51 rfl) (hS.k 51 8 rfl) (by decide) rfl (Nat.le_of_ble_eq_true rfl) (by omega) hcc2 hss2 (q_vb80 hS rfl) (q_vb80 hS rfl) (s_mX8_listOf hA h) (fun r9 S10 I11 hA9 hE9 h => ?_)
              replace hE9 := hE.tr hE9
              clear hA hE hS
              have hA := hA9
              have hE := hE9
              have hS := hA.1
              exact V_iret dX8_partOf_111 rfl (by omega) (by omega) ⟨_, rfl, rfl, hA, hE, h⟩
            · replace h := h.2 hc
              refine V_iload dX8_partOf_83 rfl ?_
              refine V_sipush (v := 1200) dX8_partOf_85 (by decide) ?_
              refine V_aload_n dX8_partOf_88 rfl rfl ?_
              refine V_getr dX8_partOf_89 fl_RX8_37 (hS.n 51 rfl) (hS.k 51 8 rfl) rfl (hS.r 51 12 61 rfl) ?_
              refine V_aload_n dX8_partOf_92 rfl rfl ?_
              refine V_getr dX8_partOf_93 fl_RX8_22 (hS.n 51 rfl) (hS.k 51 8 rfl) rfl (hS.r 51 7 56 rfl) ?_
              refine V_iload_n dX8_partOf_96 rfl rfl ?_
              obtain ⟨hb, h⟩ := h
              refine V_iald dX8_partOf_97 (hS.n 56 rfl) (hS.k 56 9 rfl) (by rw [(hS.z 56 24 rfl)]; exact hb) ?_
              obtain ⟨hb, h⟩ := h
              refine V_iald dX8_partOf_98 (hS.n 61 rfl) (hS.k 61 9 rfl) (by rw [(hS.z 61 24 rfl)]; exact hb) ?_
              refine V_imul dX8_partOf_99 ?_
              refine V_isub dX8_partOf_100 ?_
              refine V_goto 106 dX8_partOf_101 rfl ?_
              refine V_iload dX8_partOf_106 rfl ?_
              obtain ⟨c3, s3, hcc3, hss3, h⟩ := h
              refine V_callVa (st := []) [.int (v2 - (1200 * (I7 61 ((I7 56 (a2).toNatClampNeg)).toNatClampNeg))), .int r5] dX8_partOf_108 ok_mX8_listOf rfl ml_RX8_225 in_mX8_listOf se_mX8_listOf (hS.n 51 rfl) (hS.k 51 8 rfl) (by decide) rfl (Nat.le_of_ble_eq_true rfl) (by omega) hcc3 hss3 (q_vb80 hS rfl) (q_vb80 hS rfl) (s_mX8_listOf hA h) (fun r12 S13 I14 hA9 hE9 h => ?_)
              replace hE9 := hE.tr hE9
              clear hA hE hS
              have hA := hA9
              have hE := hE9
              have hS := hA.1
              exact V_iret dX8_partOf_111 rfl (by omega) (by omega) ⟨_, rfl, rfl, hA, hE, h⟩
          · replace h := h.2 hc
            refine V_iload dX8_partOf_75 rfl ?_
            exact V_iret dX8_partOf_77 rfl (by omega) (by omega) ⟨_, rfl, rfl, hA, hE, h⟩
      · replace h := h.2 hc
        refine V_iload dX8_partOf_40 rfl ?_
        refine V_iload dX8_partOf_42 rfl ?_
        refine V_icmp_le 52 dX8_partOf_44 rfl (fun hc => ?_) (fun hc => ?_)
        · replace h := h.1 hc
          refine V_iload dX8_partOf_52 rfl ?_
          obtain ⟨c4, s4, hcc4, hss4, h⟩ := h
          refine V_callVa (st := []) [.int (I p4 (a1).toNatClampNeg), .int a2, .int a3, .int a4] dX8_partOf_54 ok_mX8_partOf rfl ml_RX8_221 in_mX8_partOf se_mX8_partOf (hS.n 51 rfl) (hS.k 51 8 rfl) (by decide) rfl (Nat.le_of_ble_eq_true rfl) (by omega) hcc4 hss4 (q_vb80 hS rfl) (q_vb80 hS rfl) (ih _ _ _ _ _ _ _ _ _ _ hA h) (fun r15 S16 I17 hA9 hE9 h => ?_)
          replace hE9 := hE.tr hE9
          clear hA hE hS
          have hA := hA9
          have hE := hE9
          have hS := hA.1
          refine V_istore (lo2 := [(7, .int r15), (6, .int r3), (5, .int v2), (0, .ref 51), (1, .int a1), (2, .int a2), (3, .int a3), (4, .int a4)]) dX8_partOf_57 (by decide) rfl ?_
          refine V_iload dX8_partOf_59 rfl ?_
          refine V_if_ne 75 dX8_partOf_61 rfl (fun hc => ?_) (fun hc => ?_)
          · replace h := h.1 hc
            refine V_iload dX8_partOf_75 rfl ?_
            exact V_iret dX8_partOf_77 rfl (by omega) (by omega) ⟨_, rfl, rfl, hA, hE, h⟩
          · replace h := h.2 hc
            refine V_aload_n dX8_partOf_64 rfl rfl ?_
            refine V_iload_n dX8_partOf_65 rfl rfl ?_
            refine V_iload dX8_partOf_66 rfl ?_
            refine V_callVi (st := []) [.int a2, .int v2] dX8_partOf_68 ok_mX8_isOfSecond rfl ml_RX8_215 in_mX8_isOfSecond se_mX8_isOfSecond (hS.n 51 rfl) (hS.k 51 8 rfl) (by decide) rfl (Nat.le_of_ble_eq_true rfl) (by omega) (by omega) (by omega) (s_mX8_isOfSecond hS h) (fun r18 I9 J9 h => ?_)
            obtain ⟨rfl, rfl, h⟩ := h
            refine V_iload_n dX8_partOf_71 rfl rfl ?_
            refine V_icmp_eq 78 dX8_partOf_72 rfl (fun hc => ?_) (fun hc => ?_)
            · replace h := h.1 hc
              refine V_aload_n dX8_partOf_78 rfl rfl ?_
              refine V_iload_n dX8_partOf_79 rfl rfl ?_
              refine V_if_eq 104 dX8_partOf_80 rfl (fun hc => ?_) (fun hc => ?_)
              · replace h := h.1 hc
                refine V_iload dX8_partOf_104 rfl ?_
                refine V_iload dX8_partOf_106 rfl ?_
                obtain ⟨c5, s5, hcc5, hss5, h⟩ := h
                refine V_callVa (st := []) [.int v2, .int r15] dX8_partOf_108 ok_mX8_listOf rfl ml_RX8_225 in_mX8_listOf se_mX8_listOf (hS.n 51 rfl) (hS.k 51 8 rfl) (by decide) rfl (Nat.le_of_ble_eq_true rfl) (by omega) hcc5 hss5 (q_vb80 hS rfl) (q_vb80 hS rfl) (s_mX8_listOf hA h) (fun r19 S20 I21 hA9 hE9 h => ?_)
                replace hE9 := hE.tr hE9
                clear hA hE hS
                have hA := hA9
                have hE := hE9
                have hS := hA.1
                exact V_iret dX8_partOf_111 rfl (by omega) (by omega) ⟨_, rfl, rfl, hA, hE, h⟩
              · replace h := h.2 hc
                refine V_iload dX8_partOf_83 rfl ?_
                refine V_sipush (v := 1200) dX8_partOf_85 (by decide) ?_
                refine V_aload_n dX8_partOf_88 rfl rfl ?_
                refine V_getr dX8_partOf_89 fl_RX8_37 (hS.n 51 rfl) (hS.k 51 8 rfl) rfl (hS.r 51 12 61 rfl) ?_
                refine V_aload_n dX8_partOf_92 rfl rfl ?_
                refine V_getr dX8_partOf_93 fl_RX8_22 (hS.n 51 rfl) (hS.k 51 8 rfl) rfl (hS.r 51 7 56 rfl) ?_
                refine V_iload_n dX8_partOf_96 rfl rfl ?_
                obtain ⟨hb, h⟩ := h
                refine V_iald dX8_partOf_97 (hS.n 56 rfl) (hS.k 56 9 rfl) (by rw [(hS.z 56 24 rfl)]; exact hb) ?_
                obtain ⟨hb, h⟩ := h
                refine V_iald dX8_partOf_98 (hS.n 61 rfl) (hS.k 61 9 rfl) (by rw [(hS.z 61 24 rfl)]; exact hb) ?_
                refine V_imul dX8_partOf_99 ?_
                refine V_isub dX8_partOf_100 ?_
                refine V_goto 106 dX8_partOf_101 rfl ?_
                refine V_iload dX8_partOf_106 rfl ?_
                obtain ⟨c6, s6, hcc6, hss6, h⟩ := h
                refine V_callVa (st := []) [.int (v2 - (1200 * (I17 61 ((I17 56 (a2).toNatClampNeg)).toNatClampNeg))), .int r15] dX8_partOf_108 ok_mX8_listOf rfl ml_RX8_225 in_mX8_listOf se_mX8_listOf (hS.n 51 rfl) (hS.k 51 8 rfl) (by decide) rfl (Nat.le_of_ble_eq_true rfl) (by omega) hcc6 hss6 (q_vb80 hS rfl) (q_vb80 hS rfl) (s_mX8_listOf hA h) (fun r22 S23 I24 hA9 hE9 h => ?_)
                replace hE9 := hE.tr hE9
                clear hA hE hS
                have hA := hA9
                have hE := hE9
                have hS := hA.1
                exact V_iret dX8_partOf_111 rfl (by omega) (by omega) ⟨_, rfl, rfl, hA, hE, h⟩
            · replace h := h.2 hc
              refine V_iload dX8_partOf_75 rfl ?_
              exact V_iret dX8_partOf_77 rfl (by omega) (by omega) ⟨_, rfl, rfl, hA, hE, h⟩
        · replace h := h.2 hc
          refine V_iload dX8_partOf_47 rfl ?_
          refine V_goto 54 dX8_partOf_49 rfl ?_
          obtain ⟨c7, s7, hcc7, hss7, h⟩ := h
          refine V_callVa (st := []) [.int (I p4 (a1).toNatClampNeg), .int a2, .int a3, .int v2] dX8_partOf_54 ok_mX8_partOf rfl ml_RX8_221 in_mX8_partOf se_mX8_partOf (hS.n 51 rfl) (hS.k 51 8 rfl) (by decide) rfl (Nat.le_of_ble_eq_true rfl) (by omega) hcc7 hss7 (q_vb80 hS rfl) (q_vb80 hS rfl) (ih _ _ _ _ _ _ _ _ _ _ hA h) (fun r25 S26 I27 hA9 hE9 h => ?_)
          replace hE9 := hE.tr hE9
          clear hA hE hS
          have hA := hA9
          have hE := hE9
          have hS := hA.1
          refine V_istore (lo2 := [(7, .int r25), (6, .int r3), (5, .int v2), (0, .ref 51), (1, .int a1), (2, .int a2), (3, .int a3), (4, .int a4)]) dX8_partOf_57 (by decide) rfl ?_
          refine V_iload dX8_partOf_59 rfl ?_
          refine V_if_ne 75 dX8_partOf_61 rfl (fun hc => ?_) (fun hc => ?_)
          · replace h := h.1 hc
            refine V_iload dX8_partOf_75 rfl ?_
            exact V_iret dX8_partOf_77 rfl (by omega) (by omega) ⟨_, rfl, rfl, hA, hE, h⟩
          · replace h := h.2 hc
            refine V_aload_n dX8_partOf_64 rfl rfl ?_
            refine V_iload_n dX8_partOf_65 rfl rfl ?_
            refine V_iload dX8_partOf_66 rfl ?_
            refine V_callVi (st := []) [.int a2, .int v2] dX8_partOf_68 ok_mX8_isOfSecond rfl ml_RX8_215 in_mX8_isOfSecond se_mX8_isOfSecond (hS.n 51 rfl) (hS.k 51 8 rfl) (by decide) rfl (Nat.le_of_ble_eq_true rfl) (by omega) (by omega) (by omega) (s_mX8_isOfSecond hS h) (fun r28 I9 J9 h => ?_)
            obtain ⟨rfl, rfl, h⟩ := h
            refine V_iload_n dX8_partOf_71 rfl rfl ?_
            refine V_icmp_eq 78 dX8_partOf_72 rfl (fun hc => ?_) (fun hc => ?_)
            · replace h := h.1 hc
              refine V_aload_n dX8_partOf_78 rfl rfl ?_
              refine V_iload_n dX8_partOf_79 rfl rfl ?_
              refine V_if_eq 104 dX8_partOf_80 rfl (fun hc => ?_) (fun hc => ?_)
              · replace h := h.1 hc
                refine V_iload dX8_partOf_104 rfl ?_
                refine V_iload dX8_partOf_106 rfl ?_
                obtain ⟨c8, s8, hcc8, hss8, h⟩ := h
                refine V_callVa (st := []) [.int v2, .int r25] dX8_partOf_108 ok_mX8_listOf rfl ml_RX8_225 in_mX8_listOf se_mX8_listOf (hS.n 51 rfl) (hS.k 51 8 rfl) (by decide) rfl (Nat.le_of_ble_eq_true rfl) (by omega) hcc8 hss8 (q_vb80 hS rfl) (q_vb80 hS rfl) (s_mX8_listOf hA h) (fun r29 S30 I31 hA9 hE9 h => ?_)
                replace hE9 := hE.tr hE9
                clear hA hE hS
                have hA := hA9
                have hE := hE9
                have hS := hA.1
                exact V_iret dX8_partOf_111 rfl (by omega) (by omega) ⟨_, rfl, rfl, hA, hE, h⟩
              · replace h := h.2 hc
                refine V_iload dX8_partOf_83 rfl ?_
                refine V_sipush (v := 1200) dX8_partOf_85 (by decide) ?_
                refine V_aload_n dX8_partOf_88 rfl rfl ?_
                refine V_getr dX8_partOf_89 fl_RX8_37 (hS.n 51 rfl) (hS.k 51 8 rfl) rfl (hS.r 51 12 61 rfl) ?_
                refine V_aload_n dX8_partOf_92 rfl rfl ?_
                refine V_getr dX8_partOf_93 fl_RX8_22 (hS.n 51 rfl) (hS.k 51 8 rfl) rfl (hS.r 51 7 56 rfl) ?_
                refine V_iload_n dX8_partOf_96 rfl rfl ?_
                obtain ⟨hb, h⟩ := h
                refine V_iald dX8_partOf_97 (hS.n 56 rfl) (hS.k 56 9 rfl) (by rw [(hS.z 56 24 rfl)]; exact hb) ?_
                obtain ⟨hb, h⟩ := h
                refine V_iald dX8_partOf_98 (hS.n 61 rfl) (hS.k 61 9 rfl) (by rw [(hS.z 61 24 rfl)]; exact hb) ?_
                refine V_imul dX8_partOf_99 ?_
                refine V_isub dX8_partOf_100 ?_
                refine V_goto 106 dX8_partOf_101 rfl ?_
                refine V_iload dX8_partOf_106 rfl ?_
                obtain ⟨c9, s9, hcc9, hss9, h⟩ := h
                refine V_callVa (st := []) [.int (v2 - (1200 * (I27 61 ((I27 56 (a2).toNatClampNeg)).toNatClampNeg))), .int r25] dX8_partOf_108 ok_mX8_listOf rfl ml_RX8_225 in_mX8_listOf se_mX8_listOf (hS.n 51 rfl) (hS.k 51 8 rfl) (by decide) rfl (Nat.le_of_ble_eq_true rfl) (by omega) hcc9 hss9 (q_vb80 hS rfl) (q_vb80 hS rfl) (s_mX8_listOf hA h) (fun r32 S33 I34 hA9 hE9 h => ?_)
                replace hE9 := hE.tr hE9
                clear hA hE hS
                have hA := hA9
                have hE := hE9
                have hS := hA.1
                exact V_iret dX8_partOf_111 rfl (by omega) (by omega) ⟨_, rfl, rfl, hA, hE, h⟩
            · replace h := h.2 hc
              refine V_iload dX8_partOf_75 rfl ?_
              exact V_iret dX8_partOf_77 rfl (by omega) (by omega) ⟨_, rfl, rfl, hA, hE, h⟩
    · replace h := h.2 hc
      refine V_iconst (v := (-1)) dX8_partOf_5 (by decide) ?_
      exact V_iret dX8_partOf_6 rfl (by omega) (by omega) ⟨_, rfl, rfl, hA, hE, h⟩
def wX8_withChain_66 (S : QS) (a1 : Int32) (a2 : Int32) (a3 : Int32) (K107 : Int32 → Int32 → Int32 → Int32 → Int32 → QI → Prop) (post : Int32 → QI → Prop) : Nat → Int32 → Int32 → Int32 → Int32 → Int32 → QI → Prop
  | 0, _, _, _, _, _, _ => False
  | n + 1, x4, x5, x6, x7, x8, I => ((x8 ≤ 0 → (K107 x4 x5 x6 x7 x8 I)) ∧ (¬ x8 ≤ 0 → (vp_in (x8 - 1) 24 ∧ ((x7 ≤ (I 75 ((x8 - 1)).toNatClampNeg) → (K107 x4 x5 x6 x7 x8 I)) ∧ (¬ x7 ≤ (I 75 ((x8 - 1)).toNatClampNeg) → (vp_in (x8 - 1) 24 ∧ (vp_in x8 24 ∧ (∀ I3 : QI, I3 = q_u2 I 75 (x8).toNatClampNeg (I 75 ((x8 - 1)).toNatClampNeg) → (∀ v4 : Int32, v4 = (x8 + (-1)) → (wX8_withChain_66 S a1 a2 a3 K107 post n x4 x5 x6 x7 v4 I3))))))))))
set_option maxRecDepth 100000 in
set_option maxHeartbeats 4000000 in
theorem swX8_withChain_66 {X : QX} {S : QS} {a1 : Int32} {a2 : Int32} {a3 : Int32} {J : QJ} {K107 : Int32 → Int32 → Int32 → Int32 → Int32 → QI → Prop} {post : Int32 → QI → Prop} (hA : Sa S) (hK107 : ∀ (z4 : Int32) (z5 : Int32) (z6 : Int32) (z7 : Int32) (z8 : Int32) (I : QI), K107 z4 z5 z6 z7 z8 I → V X mX8_withChain 9 0 0 (q_Pi S (fun r I2 J2 => J = J2 ∧ post r I2)) 107 [(0, .ref 51), (1, .int a1), (3, .int a3), (4, .int z4), (5, .int z5), (6, .int z6), (7, .int z7), (8, .int z8)] [] S I J 0 0) : ∀ (f : Nat) (x4 : Int32) (x5 : Int32) (x6 : Int32) (x7 : Int32) (x8 : Int32) (I : QI), wX8_withChain_66 S a1 a2 a3 K107 post f x4 x5 x6 x7 x8 I → V X mX8_withChain 9 0 0 (q_Pi S (fun r I2 J2 => J = J2 ∧ post r I2)) 66 [(0, .ref 51), (1, .int a1), (3, .int a3), (4, .int x4), (5, .int x5), (6, .int x6), (7, .int x7), (8, .int x8)] [] S I J 0 0 := by
  have hS := hA.1
  intro f
  induction f with
  | zero => intro x4 x5 x6 x7 x8 I h; exact h.elim
  | succ n ih =>
    intro x4 x5 x6 x7 x8 I h
    replace h : ((x8 ≤ 0 → (K107 x4 x5 x6 x7 x8 I)) ∧ (¬ x8 ≤ 0 → (vp_in (x8 - 1) 24 ∧ ((x7 ≤ (I 75 ((x8 - 1)).toNatClampNeg) → (K107 x4 x5 x6 x7 x8 I)) ∧ (¬ x7 ≤ (I 75 ((x8 - 1)).toNatClampNeg) → (vp_in (x8 - 1) 24 ∧ (vp_in x8 24 ∧ (∀ I3 : QI, I3 = q_u2 I 75 (x8).toNatClampNeg (I 75 ((x8 - 1)).toNatClampNeg) → (∀ v4 : Int32, v4 = (x8 + (-1)) → (wX8_withChain_66 S a1 a2 a3 K107 post n x4 x5 x6 x7 v4 I3)))))))))) := h
    refine V_iload dX8_withChain_66 rfl ?_
    refine V_if_le 107 dX8_withChain_68 rfl (fun hc => ?_) (fun hc => ?_)
    · replace h := h.1 hc
      exact hK107 _ _ _ _ _ _ h
    · replace h := h.2 hc
      refine V_aload_n dX8_withChain_71 rfl rfl ?_
      refine V_getr dX8_withChain_72 fl_RX8_86 (hS.n 51 rfl) (hS.k 51 8 rfl) rfl (hS.r 51 31 75 rfl) ?_
      refine V_iload dX8_withChain_75 rfl ?_
      refine V_iconst (v := 1) dX8_withChain_77 (by decide) ?_
      refine V_isub dX8_withChain_78 ?_
      obtain ⟨hb, h⟩ := h
      refine V_iald dX8_withChain_79 (hS.n 75 rfl) (hS.k 75 9 rfl) (by rw [(hS.z 75 24 rfl)]; exact hb) ?_
      refine V_iload dX8_withChain_80 rfl ?_
      refine V_icmp_ge 107 dX8_withChain_82 rfl (fun hc => ?_) (fun hc => ?_)
      · replace h := h.1 hc
        exact hK107 _ _ _ _ _ _ h
      · replace h := h.2 hc
        refine V_aload_n dX8_withChain_85 rfl rfl ?_
        refine V_getr dX8_withChain_86 fl_RX8_86 (hS.n 51 rfl) (hS.k 51 8 rfl) rfl (hS.r 51 31 75 rfl) ?_
        refine V_iload dX8_withChain_89 rfl ?_
        refine V_aload_n dX8_withChain_91 rfl rfl ?_
        refine V_getr dX8_withChain_92 fl_RX8_86 (hS.n 51 rfl) (hS.k 51 8 rfl) rfl (hS.r 51 31 75 rfl) ?_
        refine V_iload dX8_withChain_95 rfl ?_
        refine V_iconst (v := 1) dX8_withChain_97 (by decide) ?_
        refine V_isub dX8_withChain_98 ?_
        obtain ⟨hb, h⟩ := h
        refine V_iald dX8_withChain_99 (hS.n 75 rfl) (hS.k 75 9 rfl) (by rw [(hS.z 75 24 rfl)]; exact hb) ?_
        obtain ⟨hb, h⟩ := h
        refine V_iast dX8_withChain_100 (hS.n 75 rfl) (hS.k 75 9 rfl) (by rw [(hS.z 75 24 rfl)]; exact hb) ?_
        refine V_memI (fun I3 e_I3 => ?_)
        replace h := h I3 e_I3
        obtain ⟨v4, e_v4⟩ : ∃ z : Int32, z = (x8 + (-1)) := ⟨_, rfl⟩
        replace h := h v4 e_v4
        refine V_iinc (lo2 := [(8, .int v4), (0, .ref 51), (1, .int a1), (3, .int a3), (4, .int x4), (5, .int x5), (6, .int x6), (7, .int x7)]) 7 dX8_withChain_101 rfl (v := v4) (by rw [e_v4]; first | done | rfl) (by decide) rfl ?_
        refine V_goto 66 dX8_withChain_104 rfl ?_
        refine V_sub (lo2 := [(0, .ref 51), (1, .int a1), (3, .int a3), (4, .int x4), (5, .int x5), (6, .int x6), (7, .int x7), (8, .int v4)]) [1, 2, 3, 4, 5, 6, 7, 0] rfl ?_
        exact ih _ _ _ _ _ _ h
def wX8_withChain_9 (S : QS) (a1 : Int32) (a2 : Int32) (a3 : Int32) (K131 : Int32 → QI → Prop) (post : Int32 → QI → Prop) : Nat → Int32 → Int32 → Int32 → QI → Prop
  | 0, _, _, _, _ => False
  | n + 1, x4, x5, x6, I => ((x6 = (-1) → (K131 x4 I)) ∧ (¬ x6 = (-1) → (∀ p1 : Nat, S.2.2.2.2 51 25 = some p1 → (vp_in x6 (S.2.2.2.1 p1) ∧ (∀ v2 : Int32, v2 = (I p1 (x6).toNatClampNeg) → (vp_in a3 24 ∧ ((¬ (I 55 (a3).toNatClampNeg) = 2 → ((v2 ≤ x5 → (∃ f : Nat, wX8_withChain_66 S a1 a2 a3 (fun u5 u6 u7 u8 u9 I10 => (vp_in u9 24 ∧ (∀ I11 : QI, I11 = q_u2 I10 75 (u9).toNatClampNeg u8 → (∀ v12 : Int32, v12 = (u5 + 1) → (∀ p13 : Nat, S.2.2.2.2 51 26 = some p13 → (vp_in u7 (S.2.2.2.1 p13) ∧ (∀ v14 : Int32, v14 = (I11 p13 (u7).toNatClampNeg) → (wX8_withChain_9 S a1 a2 a3 K131 post n v12 u6 v14 I11)))))))) post f x4 x5 x6 v2 x4 I)) ∧ (¬ v2 ≤ x5 → (∃ f : Nat, wX8_withChain_66 S a1 a2 a3 (fun u15 u16 u17 u18 u19 I20 => (vp_in u19 24 ∧ (∀ I21 : QI, I21 = q_u2 I20 75 (u19).toNatClampNeg u18 → (∀ v22 : Int32, v22 = (u15 + 1) → (∀ p23 : Nat, S.2.2.2.2 51 26 = some p23 → (vp_in u17 (S.2.2.2.1 p23) ∧ (∀ v24 : Int32, v24 = (I21 p23 (u17).toNatClampNeg) → (wX8_withChain_9 S a1 a2 a3 K131 post n v22 u16 v24 I21)))))))) post f x4 v2 x6 v2 x4 I)))) ∧ ((I 55 (a3).toNatClampNeg) = 2 → (wX8_sticks a3 v2 x5 I (fun r25 => ((r25 = 0 → (∀ p26 : Nat, S.2.2.2.2 51 26 = some p26 → (vp_in x6 (S.2.2.2.1 p26) ∧ (∀ v27 : Int32, v27 = (I p26 (x6).toNatClampNeg) → (wX8_withChain_9 S a1 a2 a3 K131 post n x4 x5 v27 I))))) ∧ (¬ r25 = 0 → ((v2 ≤ x5 → (∃ f : Nat, wX8_withChain_66 S a1 a2 a3 (fun u28 u29 u30 u31 u32 I33 => (vp_in u32 24 ∧ (∀ I34 : QI, I34 = q_u2 I33 75 (u32).toNatClampNeg u31 → (∀ v35 : Int32, v35 = (u28 + 1) → (∀ p36 : Nat, S.2.2.2.2 51 26 = some p36 → (vp_in u30 (S.2.2.2.1 p36) ∧ (∀ v37 : Int32, v37 = (I34 p36 (u30).toNatClampNeg) → (wX8_withChain_9 S a1 a2 a3 K131 post n v35 u29 v37 I34)))))))) post f x4 x5 x6 v2 x4 I)) ∧ (¬ v2 ≤ x5 → (∃ f : Nat, wX8_withChain_66 S a1 a2 a3 (fun u38 u39 u40 u41 u42 I43 => (vp_in u42 24 ∧ (∀ I44 : QI, I44 = q_u2 I43 75 (u42).toNatClampNeg u41 → (∀ v45 : Int32, v45 = (u38 + 1) → (∀ p46 : Nat, S.2.2.2.2 51 26 = some p46 → (vp_in u40 (S.2.2.2.1 p46) ∧ (∀ v47 : Int32, v47 = (I44 p46 (u40).toNatClampNeg) → (wX8_withChain_9 S a1 a2 a3 K131 post n v45 u39 v47 I44)))))))) post f x4 v2 x6 v2 x4 I)))))))))))))))
set_option maxRecDepth 100000 in
set_option maxHeartbeats 4000000 in
theorem swX8_withChain_9 {X : QX} {S : QS} {a1 : Int32} {a2 : Int32} {a3 : Int32} {J : QJ} {K131 : Int32 → QI → Prop} {post : Int32 → QI → Prop} (hA : Sa S) (hK131 : ∀ (z4 : Int32) (I : QI), K131 z4 I → V X mX8_withChain 9 0 0 (q_Pi S (fun r I2 J2 => J = J2 ∧ post r I2)) 131 [(0, .ref 51), (1, .int a1), (4, .int z4)] [] S I J 0 0) : ∀ (f : Nat) (x4 : Int32) (x5 : Int32) (x6 : Int32) (I : QI), wX8_withChain_9 S a1 a2 a3 K131 post f x4 x5 x6 I → V X mX8_withChain 9 0 0 (q_Pi S (fun r I2 J2 => J = J2 ∧ post r I2)) 9 [(0, .ref 51), (1, .int a1), (3, .int a3), (4, .int x4), (5, .int x5), (6, .int x6)] [] S I J 0 0 := by
  have hS := hA.1
  intro f
  induction f with
  | zero => intro x4 x5 x6 I h; exact h.elim
  | succ n ih =>
    intro x4 x5 x6 I h
    replace h : ((x6 = (-1) → (K131 x4 I)) ∧ (¬ x6 = (-1) → (∀ p1 : Nat, S.2.2.2.2 51 25 = some p1 → (vp_in x6 (S.2.2.2.1 p1) ∧ (∀ v2 : Int32, v2 = (I p1 (x6).toNatClampNeg) → (vp_in a3 24 ∧ ((¬ (I 55 (a3).toNatClampNeg) = 2 → ((v2 ≤ x5 → (∃ f : Nat, wX8_withChain_66 S a1 a2 a3 (fun u5 u6 u7 u8 u9 I10 => (vp_in u9 24 ∧ (∀ I11 : QI, I11 = q_u2 I10 75 (u9).toNatClampNeg u8 → (∀ v12 : Int32, v12 = (u5 + 1) → (∀ p13 : Nat, S.2.2.2.2 51 26 = some p13 → (vp_in u7 (S.2.2.2.1 p13) ∧ (∀ v14 : Int32, v14 = (I11 p13 (u7).toNatClampNeg) → (wX8_withChain_9 S a1 a2 a3 K131 post n v12 u6 v14 I11)))))))) post f x4 x5 x6 v2 x4 I)) ∧ (¬ v2 ≤ x5 → (∃ f : Nat, wX8_withChain_66 S a1 a2 a3 (fun u15 u16 u17 u18 u19 I20 => (vp_in u19 24 ∧ (∀ I21 : QI, I21 = q_u2 I20 75 (u19).toNatClampNeg u18 → (∀ v22 : Int32, v22 = (u15 + 1) → (∀ p23 : Nat, S.2.2.2.2 51 26 = some p23 → (vp_in u17 (S.2.2.2.1 p23) ∧ (∀ v24 : Int32, v24 = (I21 p23 (u17).toNatClampNeg) → (wX8_withChain_9 S a1 a2 a3 K131 post n v22 u16 v24 I21)))))))) post f x4 v2 x6 v2 x4 I)))) ∧ ((I 55 (a3).toNatClampNeg) = 2 → (wX8_sticks a3 v2 x5 I (fun r25 => ((r25 = 0 → (∀ p26 : Nat, S.2.2.2.2 51 26 = some p26 → (vp_in x6 (S.2.2.2.1 p26) ∧ (∀ v27 : Int32, v27 = (I p26 (x6).toNatClampNeg) → (wX8_withChain_9 S a1 a2 a3 K131 post n x4 x5 v27 I))))) ∧ (¬ r25 = 0 → ((v2 ≤ x5 → (∃ f : Nat, wX8_withChain_66 S a1 a2 a3 (fun u28 u29 u30 u31 u32 I33 => (vp_in u32 24 ∧ (∀ I34 : QI, I34 = q_u2 I33 75 (u32).toNatClampNeg u31 → (∀ v35 : Int32, v35 = (u28 + 1) → (∀ p36 : Nat, S.2.2.2.2 51 26 = some p36 → (vp_in u30 (S.2.2.2.1 p36) ∧ (∀ v37 : Int32, v37 = (I34 p36 (u30).toNatClampNeg) → (wX8_withChain_9 S a1 a2 a3 K131 post n v35 u29 v37 I34)))))))) post f x4 x5 x6 v2 x4 I)) ∧ (¬ v2 ≤ x5 → (∃ f : Nat, wX8_withChain_66 S a1 a2 a3 (fun u38 u39 u40 u41 u42 I43 => (vp_in u42 24 ∧ (∀ I44 : QI, I44 = q_u2 I43 75 (u42).toNatClampNeg u41 → (∀ v45 : Int32, v45 = (u38 + 1) → (∀ p46 : Nat, S.2.2.2.2 51 26 = some p46 → (vp_in u40 (S.2.2.2.1 p46) ∧ (∀ v47 : Int32, v47 = (I44 p46 (u40).toNatClampNeg) → (wX8_withChain_9 S a1 a2 a3 K131 post n v45 u39 v47 I44)))))))) post f x4 v2 x6 v2 x4 I))))))))))))))) := h
    refine V_iload dX8_withChain_9 rfl ?_
    refine V_iconst (v := (-1)) dX8_withChain_11 (by decide) ?_
    refine V_icmp_eq 131 dX8_withChain_12 rfl (fun hc => ?_) (fun hc => ?_)
    · replace h := h.1 hc
      refine V_sub (lo2 := [(0, .ref 51), (1, .int a1), (4, .int x4)]) [0, 1, 3] rfl ?_
      exact hK131 _ _ h
    · replace h := h.2 hc
      refine V_aload_n dX8_withChain_15 rfl rfl ?_
      obtain ⟨p1, ep1, h7p1, hNp1, hKp1⟩ := hA.2.2.1 25 (by decide)
      refine V_getr dX8_withChain_16 fl_RX8_71 (hS.n 51 rfl) (hS.k 51 8 rfl) rfl ep1 ?_
      replace h := h p1 ep1
      refine V_iload dX8_withChain_19 rfl ?_
      obtain ⟨hb, h⟩ := h
      refine V_iald dX8_withChain_21 hNp1 hKp1 hb ?_
      refine V_topi (fun v2 e_v2 => ?_)
      replace h := h v2 e_v2
      refine V_istore (lo2 := [(7, .int v2), (0, .ref 51), (1, .int a1), (3, .int a3), (4, .int x4), (5, .int x5), (6, .int x6)]) dX8_withChain_22 (by decide) rfl ?_
      refine V_aload_n dX8_withChain_24 rfl rfl ?_
      refine V_getr dX8_withChain_25 fl_RX8_19 (hS.n 51 rfl) (hS.k 51 8 rfl) rfl (hS.r 51 6 55 rfl) ?_
      refine V_iload_n dX8_withChain_28 rfl rfl ?_
      obtain ⟨hb, h⟩ := h
      refine V_iald dX8_withChain_29 (hS.n 55 rfl) (hS.k 55 9 rfl) (by rw [(hS.z 55 24 rfl)]; exact hb) ?_
      refine V_iconst (v := 2) dX8_withChain_30 (by decide) ?_
      refine V_icmp_ne 46 dX8_withChain_31 rfl (fun hc => ?_) (fun hc => ?_)
      · replace h := h.1 hc
        refine V_iload dX8_withChain_46 rfl ?_
        refine V_iload dX8_withChain_48 rfl ?_
        refine V_icmp_le 58 dX8_withChain_50 rfl (fun hc => ?_) (fun hc => ?_)
        · replace h := h.1 hc
          refine V_iload dX8_withChain_58 rfl ?_
          refine V_istore (lo2 := [(5, .int x5), (7, .int v2), (0, .ref 51), (1, .int a1), (3, .int a3), (4, .int x4), (6, .int x6)]) dX8_withChain_60 (by decide) rfl ?_
          refine V_iload dX8_withChain_62 rfl ?_
          refine V_istore (lo2 := [(8, .int x4), (5, .int x5), (7, .int v2), (0, .ref 51), (1, .int a1), (3, .int a3), (4, .int x4), (6, .int x6)]) dX8_withChain_64 (by decide) rfl ?_
          refine V_sub (lo2 := [(0, .ref 51), (1, .int a1), (3, .int a3), (4, .int x4), (5, .int x5), (6, .int x6), (7, .int v2), (8, .int x4)]) [3, 4, 5, 6, 1, 7, 2, 0] rfl ?_
          obtain ⟨f9, h⟩ := h
          refine swX8_withChain_66 hA ?_ f9 _ _ _ _ _ _ h
          · intro u5 u6 u7 u8 u9 I10 h
            refine V_aload_n dX8_withChain_107 rfl rfl ?_
            refine V_getr dX8_withChain_108 fl_RX8_86 (hS.n 51 rfl) (hS.k 51 8 rfl) rfl (hS.r 51 31 75 rfl) ?_
            refine V_iload dX8_withChain_111 rfl ?_
            refine V_iload dX8_withChain_113 rfl ?_
            obtain ⟨hb, h⟩ := h
            refine V_iast dX8_withChain_115 (hS.n 75 rfl) (hS.k 75 9 rfl) (by rw [(hS.z 75 24 rfl)]; exact hb) ?_
            refine V_memI (fun I11 e_I11 => ?_)
            replace h := h I11 e_I11
            obtain ⟨v12, e_v12⟩ : ∃ z : Int32, z = (u5 + 1) := ⟨_, rfl⟩
            replace h := h v12 e_v12
            refine V_iinc (lo2 := [(4, .int v12), (0, .ref 51), (1, .int a1), (3, .int a3), (5, .int u6), (6, .int u7), (7, .int u8), (8, .int u9)]) 3 dX8_withChain_116 rfl (v := v12) (by rw [e_v12]; first | done | rfl) (by decide) rfl ?_
            refine V_aload_n dX8_withChain_119 rfl rfl ?_
            obtain ⟨p13, ep13, h7p13, hNp13, hKp13⟩ := hA.2.2.1 26 (by decide)
            refine V_getr dX8_withChain_120 fl_RX8_74 (hS.n 51 rfl) (hS.k 51 8 rfl) rfl ep13 ?_
            replace h := h p13 ep13
            refine V_iload dX8_withChain_123 rfl ?_
            obtain ⟨hb, h⟩ := h
            refine V_iald dX8_withChain_125 hNp13 hKp13 hb ?_
            refine V_topi (fun v14 e_v14 => ?_)
            replace h := h v14 e_v14
            refine V_istore (lo2 := [(6, .int v14), (4, .int v12), (0, .ref 51), (1, .int a1), (3, .int a3), (5, .int u6), (7, .int u8), (8, .int u9)]) dX8_withChain_126 (by decide) rfl ?_
            refine V_goto 9 dX8_withChain_128 rfl ?_
            refine V_sub (lo2 := [(0, .ref 51), (1, .int a1), (3, .int a3), (4, .int v12), (5, .int u6), (6, .int v14)]) [2, 3, 4, 1, 5, 0] rfl ?_
            exact ih _ _ _ _ h
        · replace h := h.2 hc
          refine V_iload dX8_withChain_53 rfl ?_
          refine V_goto 60 dX8_withChain_55 rfl ?_
          refine V_istore (lo2 := [(5, .int v2), (7, .int v2), (0, .ref 51), (1, .int a1), (3, .int a3), (4, .int x4), (6, .int x6)]) dX8_withChain_60 (by decide) rfl ?_
          refine V_iload dX8_withChain_62 rfl ?_
          refine V_istore (lo2 := [(8, .int x4), (5, .int v2), (7, .int v2), (0, .ref 51), (1, .int a1), (3, .int a3), (4, .int x4), (6, .int x6)]) dX8_withChain_64 (by decide) rfl ?_
          refine V_sub (lo2 := [(0, .ref 51), (1, .int a1), (3, .int a3), (4, .int x4), (5, .int v2), (6, .int x6), (7, .int v2), (8, .int x4)]) [3, 4, 5, 6, 1, 7, 2, 0] rfl ?_
          obtain ⟨f9, h⟩ := h
          refine swX8_withChain_66 hA ?_ f9 _ _ _ _ _ _ h
          · intro u15 u16 u17 u18 u19 I20 h
            refine V_aload_n dX8_withChain_107 rfl rfl ?_
            refine V_getr dX8_withChain_108 fl_RX8_86 (hS.n 51 rfl) (hS.k 51 8 rfl) rfl (hS.r 51 31 75 rfl) ?_
            refine V_iload dX8_withChain_111 rfl ?_
            refine V_iload dX8_withChain_113 rfl ?_
            obtain ⟨hb, h⟩ := h
            refine V_iast dX8_withChain_115 (hS.n 75 rfl) (hS.k 75 9 rfl) (by rw [(hS.z 75 24 rfl)]; exact hb) ?_
            refine V_memI (fun I21 e_I21 => ?_)
            replace h := h I21 e_I21
            obtain ⟨v22, e_v22⟩ : ∃ z : Int32, z = (u15 + 1) := ⟨_, rfl⟩
            replace h := h v22 e_v22
            refine V_iinc (lo2 := [(4, .int v22), (0, .ref 51), (1, .int a1), (3, .int a3), (5, .int u16), (6, .int u17), (7, .int u18), (8, .int u19)]) 3 dX8_withChain_116 rfl (v := v22) (by rw [e_v22]; first | done | rfl) (by decide) rfl ?_
            refine V_aload_n dX8_withChain_119 rfl rfl ?_
            obtain ⟨p23, ep23, h7p23, hNp23, hKp23⟩ := hA.2.2.1 26 (by decide)
            refine V_getr dX8_withChain_120 fl_RX8_74 (hS.n 51 rfl) (hS.k 51 8 rfl) rfl ep23 ?_
            replace h := h p23 ep23
            refine V_iload dX8_withChain_123 rfl ?_
            obtain ⟨hb, h⟩ := h
            refine V_iald dX8_withChain_125 hNp23 hKp23 hb ?_
            refine V_topi (fun v24 e_v24 => ?_)
            replace h := h v24 e_v24
            refine V_istore (lo2 := [(6, .int v24), (4, .int v22), (0, .ref 51), (1, .int a1), (3, .int a3), (5, .int u16), (7, .int u18), (8, .int u19)]) dX8_withChain_126 (by decide) rfl ?_
            refine V_goto 9 dX8_withChain_128 rfl ?_
            refine V_sub (lo2 := [(0, .ref 51), (1, .int a1), (3, .int a3), (4, .int v22), (5, .int u16), (6, .int v24)]) [2, 3, 4, 1, 5, 0] rfl ?_
            exact ih _ _ _ _ h
      · replace h := h.2 hc
        refine V_aload_n dX8_withChain_34 rfl rfl ?_
        refine V_iload_n dX8_withChain_35 rfl rfl ?_
        refine V_iload dX8_withChain_36 rfl ?_
        refine V_iload dX8_withChain_38 rfl ?_
        refine V_callVi (st := []) [.int a3, .int v2, .int x5] dX8_withChain_40 ok_mX8_sticks rfl ml_RX8_218 in_mX8_sticks se_mX8_sticks (hS.n 51 rfl) (hS.k 51 8 rfl) (by decide) rfl (Nat.le_of_ble_eq_true rfl) (by omega) (by omega) (by omega) (s_mX8_sticks hS h) (fun r25 I9 J9 h => ?_)
        obtain ⟨rfl, rfl, h⟩ := h
        refine V_if_eq 119 dX8_withChain_43 rfl (fun hc => ?_) (fun hc => ?_)
        · replace h := h.1 hc
          refine V_aload_n dX8_withChain_119 rfl rfl ?_
          obtain ⟨p26, ep26, h7p26, hNp26, hKp26⟩ := hA.2.2.1 26 (by decide)
          refine V_getr dX8_withChain_120 fl_RX8_74 (hS.n 51 rfl) (hS.k 51 8 rfl) rfl ep26 ?_
          replace h := h p26 ep26
          refine V_iload dX8_withChain_123 rfl ?_
          obtain ⟨hb, h⟩ := h
          refine V_iald dX8_withChain_125 hNp26 hKp26 hb ?_
          refine V_topi (fun v27 e_v27 => ?_)
          replace h := h v27 e_v27
          refine V_istore (lo2 := [(6, .int v27), (7, .int v2), (0, .ref 51), (1, .int a1), (3, .int a3), (4, .int x4), (5, .int x5)]) dX8_withChain_126 (by decide) rfl ?_
          refine V_goto 9 dX8_withChain_128 rfl ?_
          refine V_sub (lo2 := [(0, .ref 51), (1, .int a1), (3, .int a3), (4, .int x4), (5, .int x5), (6, .int v27)]) [2, 3, 4, 5, 6, 0] rfl ?_
          exact ih _ _ _ _ h
        · replace h := h.2 hc
          refine V_iload dX8_withChain_46 rfl ?_
          refine V_iload dX8_withChain_48 rfl ?_
          refine V_icmp_le 58 dX8_withChain_50 rfl (fun hc => ?_) (fun hc => ?_)
          · replace h := h.1 hc
            refine V_iload dX8_withChain_58 rfl ?_
            refine V_istore (lo2 := [(5, .int x5), (7, .int v2), (0, .ref 51), (1, .int a1), (3, .int a3), (4, .int x4), (6, .int x6)]) dX8_withChain_60 (by decide) rfl ?_
            refine V_iload dX8_withChain_62 rfl ?_
            refine V_istore (lo2 := [(8, .int x4), (5, .int x5), (7, .int v2), (0, .ref 51), (1, .int a1), (3, .int a3), (4, .int x4), (6, .int x6)]) dX8_withChain_64 (by decide) rfl ?_
            refine V_sub (lo2 := [(0, .ref 51), (1, .int a1), (3, .int a3), (4, .int x4), (5, .int x5), (6, .int x6), (7, .int v2), (8, .int x4)]) [3, 4, 5, 6, 1, 7, 2, 0] rfl ?_
            obtain ⟨f9, h⟩ := h
            refine swX8_withChain_66 hA ?_ f9 _ _ _ _ _ _ h
            · intro u28 u29 u30 u31 u32 I33 h
              refine V_aload_n dX8_withChain_107 rfl rfl ?_
              refine V_getr dX8_withChain_108 fl_RX8_86 (hS.n 51 rfl) (hS.k 51 8 rfl) rfl (hS.r 51 31 75 rfl) ?_
              refine V_iload dX8_withChain_111 rfl ?_
              refine V_iload dX8_withChain_113 rfl ?_
              obtain ⟨hb, h⟩ := h
              refine V_iast dX8_withChain_115 (hS.n 75 rfl) (hS.k 75 9 rfl) (by rw [(hS.z 75 24 rfl)]; exact hb) ?_
              refine V_memI (fun I34 e_I34 => ?_)
              replace h := h I34 e_I34
              obtain ⟨v35, e_v35⟩ : ∃ z : Int32, z = (u28 + 1) := ⟨_, rfl⟩
              replace h := h v35 e_v35
              refine V_iinc (lo2 := [(4, .int v35), (0, .ref 51), (1, .int a1), (3, .int a3), (5, .int u29), (6, .int u30), (7, .int u31), (8, .int u32)]) 3 dX8_withChain_116 rfl (v := v35) (by rw [e_v35]; first | done | rfl) (by decide) rfl ?_
              refine V_aload_n dX8_withChain_119 rfl rfl ?_
              obtain ⟨p36, ep36, h7p36, hNp36, hKp36⟩ := hA.2.2.1 26 (by decide)
              refine V_getr dX8_withChain_120 fl_RX8_74 (hS.n 51 rfl) (hS.k 51 8 rfl) rfl ep36 ?_
              replace h := h p36 ep36
              refine V_iload dX8_withChain_123 rfl ?_
              obtain ⟨hb, h⟩ := h
              refine V_iald dX8_withChain_125 hNp36 hKp36 hb ?_
              refine V_topi (fun v37 e_v37 => ?_)
              replace h := h v37 e_v37
              refine V_istore (lo2 := [(6, .int v37), (4, .int v35), (0, .ref 51), (1, .int a1), (3, .int a3), (5, .int u29), (7, .int u31), (8, .int u32)]) dX8_withChain_126 (by decide) rfl ?_
              refine V_goto 9 dX8_withChain_128 rfl ?_
              refine V_sub (lo2 := [(0, .ref 51), (1, .int a1), (3, .int a3), (4, .int v35), (5, .int u29), (6, .int v37)]) [2, 3, 4, 1, 5, 0] rfl ?_
              exact ih _ _ _ _ h
          · replace h := h.2 hc
            refine V_iload dX8_withChain_53 rfl ?_
            refine V_goto 60 dX8_withChain_55 rfl ?_
            refine V_istore (lo2 := [(5, .int v2), (7, .int v2), (0, .ref 51), (1, .int a1), (3, .int a3), (4, .int x4), (6, .int x6)]) dX8_withChain_60 (by decide) rfl ?_
            refine V_iload dX8_withChain_62 rfl ?_
            refine V_istore (lo2 := [(8, .int x4), (5, .int v2), (7, .int v2), (0, .ref 51), (1, .int a1), (3, .int a3), (4, .int x4), (6, .int x6)]) dX8_withChain_64 (by decide) rfl ?_
            refine V_sub (lo2 := [(0, .ref 51), (1, .int a1), (3, .int a3), (4, .int x4), (5, .int v2), (6, .int x6), (7, .int v2), (8, .int x4)]) [3, 4, 5, 6, 1, 7, 2, 0] rfl ?_
            obtain ⟨f9, h⟩ := h
            refine swX8_withChain_66 hA ?_ f9 _ _ _ _ _ _ h
            · intro u38 u39 u40 u41 u42 I43 h
              refine V_aload_n dX8_withChain_107 rfl rfl ?_
              refine V_getr dX8_withChain_108 fl_RX8_86 (hS.n 51 rfl) (hS.k 51 8 rfl) rfl (hS.r 51 31 75 rfl) ?_
              refine V_iload dX8_withChain_111 rfl ?_
              refine V_iload dX8_withChain_113 rfl ?_
              obtain ⟨hb, h⟩ := h
              refine V_iast dX8_withChain_115 (hS.n 75 rfl) (hS.k 75 9 rfl) (by rw [(hS.z 75 24 rfl)]; exact hb) ?_
              refine V_memI (fun I44 e_I44 => ?_)
              replace h := h I44 e_I44
              obtain ⟨v45, e_v45⟩ : ∃ z : Int32, z = (u38 + 1) := ⟨_, rfl⟩
              replace h := h v45 e_v45
              refine V_iinc (lo2 := [(4, .int v45), (0, .ref 51), (1, .int a1), (3, .int a3), (5, .int u39), (6, .int u40), (7, .int u41), (8, .int u42)]) 3 dX8_withChain_116 rfl (v := v45) (by rw [e_v45]; first | done | rfl) (by decide) rfl ?_
              refine V_aload_n dX8_withChain_119 rfl rfl ?_
              obtain ⟨p46, ep46, h7p46, hNp46, hKp46⟩ := hA.2.2.1 26 (by decide)
              refine V_getr dX8_withChain_120 fl_RX8_74 (hS.n 51 rfl) (hS.k 51 8 rfl) rfl ep46 ?_
              replace h := h p46 ep46
              refine V_iload dX8_withChain_123 rfl ?_
              obtain ⟨hb, h⟩ := h
              refine V_iald dX8_withChain_125 hNp46 hKp46 hb ?_
              refine V_topi (fun v47 e_v47 => ?_)
              replace h := h v47 e_v47
              refine V_istore (lo2 := [(6, .int v47), (4, .int v45), (0, .ref 51), (1, .int a1), (3, .int a3), (5, .int u39), (7, .int u41), (8, .int u42)]) dX8_withChain_126 (by decide) rfl ?_
              refine V_goto 9 dX8_withChain_128 rfl ?_
              refine V_sub (lo2 := [(0, .ref 51), (1, .int a1), (3, .int a3), (4, .int v45), (5, .int u39), (6, .int v47)]) [2, 3, 4, 1, 5, 0] rfl ?_
              exact ih _ _ _ _ h
def wX8_withChain_137 (S : QS) (a1 : Int32) (a2 : Int32) (a3 : Int32) (post : Int32 → QI → Prop) : Nat → Int32 → Int32 → Int32 → QI → Prop
  | 0, _, _, _, _ => False
  | n + 1, x4, x6, x7, I => ((x4 ≤ x7 → post x6 I) ∧ (¬ x4 ≤ x7 → (vp_in x7 24 ∧ (vp_in x7 24 ∧ (vp_in x7 24 ∧ (wX8_place 1 x6 (-1) ((I 75 (x7).toNatClampNeg) / 1200) (((I 75 (x7).toNatClampNeg) / 200) - ((I 75 (x7).toNatClampNeg) / 200) / 6 * 6) (((I 75 (x7).toNatClampNeg) - (I 75 (x7).toNatClampNeg) / 200 * 200) - 99) I (fun r51 I50 => (∀ v52 : Int32, v52 = (x7 + 1) → (wX8_withChain_137 S a1 a2 a3 post n x4 r51 v52 I50)))))))))
set_option maxRecDepth 100000 in
set_option maxHeartbeats 4000000 in
theorem swX8_withChain_137 {X : QX} {S : QS} {a1 : Int32} {a2 : Int32} {a3 : Int32} {J : QJ} {post : Int32 → QI → Prop} (hA : Sa S) : ∀ (f : Nat) (x4 : Int32) (x6 : Int32) (x7 : Int32) (I : QI), wX8_withChain_137 S a1 a2 a3 post f x4 x6 x7 I → V X mX8_withChain 9 0 0 (q_Pi S (fun r I2 J2 => J = J2 ∧ post r I2)) 137 [(0, .ref 51), (4, .int x4), (6, .int x6), (7, .int x7)] [] S I J 0 0 := by
  have hS := hA.1
  intro f
  induction f with
  | zero => intro x4 x6 x7 I h; exact h.elim
  | succ n ih =>
    intro x4 x6 x7 I h
    replace h : ((x4 ≤ x7 → post x6 I) ∧ (¬ x4 ≤ x7 → (vp_in x7 24 ∧ (vp_in x7 24 ∧ (vp_in x7 24 ∧ (wX8_place 1 x6 (-1) ((I 75 (x7).toNatClampNeg) / 1200) (((I 75 (x7).toNatClampNeg) / 200) - ((I 75 (x7).toNatClampNeg) / 200) / 6 * 6) (((I 75 (x7).toNatClampNeg) - (I 75 (x7).toNatClampNeg) / 200 * 200) - 99) I (fun r51 I50 => (∀ v52 : Int32, v52 = (x7 + 1) → (wX8_withChain_137 S a1 a2 a3 post n x4 r51 v52 I50))))))))) := h
    refine V_iload dX8_withChain_137 rfl ?_
    refine V_iload dX8_withChain_139 rfl ?_
    refine V_icmp_ge 199 dX8_withChain_141 rfl (fun hc => ?_) (fun hc => ?_)
    · replace h := h.1 hc
      refine V_iload dX8_withChain_199 rfl ?_
      exact V_iret dX8_withChain_201 rfl (by decide) (by decide) ⟨_, rfl, rfl, rfl, h⟩
    · replace h := h.2 hc
      refine V_aload_n dX8_withChain_144 rfl rfl ?_
      refine V_iconst (v := 1) dX8_withChain_145 (by decide) ?_
      refine V_iload dX8_withChain_146 rfl ?_
      refine V_iconst (v := (-1)) dX8_withChain_148 (by decide) ?_
      refine V_aload_n dX8_withChain_149 rfl rfl ?_
      refine V_getr dX8_withChain_150 fl_RX8_86 (hS.n 51 rfl) (hS.k 51 8 rfl) rfl (hS.r 51 31 75 rfl) ?_
      refine V_iload dX8_withChain_153 rfl ?_
      obtain ⟨hb, h⟩ := h
      refine V_iald dX8_withChain_155 (hS.n 75 rfl) (hS.k 75 9 rfl) (by rw [(hS.z 75 24 rfl)]; exact hb) ?_
      refine V_sipush (v := 1200) dX8_withChain_156 (by decide) ?_
      refine V_idiv dX8_withChain_159 (by decide) ?_
      refine V_aload_n dX8_withChain_160 rfl rfl ?_
      refine V_getr dX8_withChain_161 fl_RX8_86 (hS.n 51 rfl) (hS.k 51 8 rfl) rfl (hS.r 51 31 75 rfl) ?_
      refine V_iload dX8_withChain_164 rfl ?_
      obtain ⟨hb, h⟩ := h
      refine V_iald dX8_withChain_166 (hS.n 75 rfl) (hS.k 75 9 rfl) (by rw [(hS.z 75 24 rfl)]; exact hb) ?_
      refine V_sipush (v := 200) dX8_withChain_167 (by decide) ?_
      refine V_idiv dX8_withChain_170 (by decide) ?_
      refine V_bipush (v := 6) dX8_withChain_171 (by decide) ?_
      refine V_irem dX8_withChain_173 (by decide) ?_
      refine V_aload_n dX8_withChain_174 rfl rfl ?_
      refine V_getr dX8_withChain_175 fl_RX8_86 (hS.n 51 rfl) (hS.k 51 8 rfl) rfl (hS.r 51 31 75 rfl) ?_
      refine V_iload dX8_withChain_178 rfl ?_
      obtain ⟨hb, h⟩ := h
      refine V_iald dX8_withChain_180 (hS.n 75 rfl) (hS.k 75 9 rfl) (by rw [(hS.z 75 24 rfl)]; exact hb) ?_
      refine V_sipush (v := 200) dX8_withChain_181 (by decide) ?_
      refine V_irem dX8_withChain_184 (by decide) ?_
      refine V_bipush (v := 99) dX8_withChain_185 (by decide) ?_
      refine V_isub dX8_withChain_187 ?_
      refine V_callVi (st := []) [.int 1, .int x6, .int (-1), .int ((I 75 (x7).toNatClampNeg) / 1200), .int (((I 75 (x7).toNatClampNeg) / 200) - ((I 75 (x7).toNatClampNeg) / 200) / 6 * 6), .int (((I 75 (x7).toNatClampNeg) - (I 75 (x7).toNatClampNeg) / 200 * 200) - 99)] dX8_withChain_188 ok_mX8_place rfl ml_RX8_232 in_mX8_place se_mX8_place (hS.n 51 rfl) (hS.k 51 8 rfl) (by decide) rfl (Nat.le_of_ble_eq_true rfl) (by omega) (by omega) (by omega) (s_mX8_place hS h) (fun r51 I50 J9 h => ?_)
      obtain ⟨rfl, h⟩ := h
      refine V_istore (lo2 := [(6, .int r51), (0, .ref 51), (4, .int x4), (7, .int x7)]) dX8_withChain_191 (by decide) rfl ?_
      obtain ⟨v52, e_v52⟩ : ∃ z : Int32, z = (x7 + 1) := ⟨_, rfl⟩
      replace h := h v52 e_v52
      refine V_iinc (lo2 := [(7, .int v52), (6, .int r51), (0, .ref 51), (4, .int x4)]) 3 dX8_withChain_193 rfl (v := v52) (by rw [e_v52]; first | done | rfl) (by decide) rfl ?_
      refine V_goto 137 dX8_withChain_196 rfl ?_
      refine V_sub (lo2 := [(0, .ref 51), (4, .int x4), (6, .int r51), (7, .int v52)]) [2, 3, 1, 0] rfl ?_
      exact ih _ _ _ _ h
def wX8_withChain (a1 : Int32) (a2 : Int32) (a3 : Int32) (S : QS) (I : QI) (post : Int32 → QI → Prop) : Prop := (∃ f : Nat, wX8_withChain_9 S a1 a2 a3 (fun u48 I49 => (∃ f : Nat, wX8_withChain_137 S a1 a2 a3 post f u48 a1 0 I49)) post f 0 (-1) a2 I)
set_option maxRecDepth 100000 in
set_option maxHeartbeats 4000000 in
theorem s_mX8_withChain {X : QX} {S : QS} {a1 a2 a3 : Int32} {I : QI} {J : QJ} {post : Int32 → QI → Prop} (hA : Sa S) (h : wX8_withChain a1 a2 a3 S I post) : CX X mX8_withChain 9 0 0 [.ref 51, .int a1, .int a2, .int a3] S I J (q_Pi S (fun r I2 J2 => J = J2 ∧ post r I2)) := by
  have hS := hA.1
  refine CX.of (lo := [(0, .ref 51), (1, .int a1), (2, .int a2), (3, .int a3)]) ok_mX8_withChain rfl (Nat.le_of_ble_eq_true rfl) rfl ?_
  replace h : (∃ f : Nat, wX8_withChain_9 S a1 a2 a3 (fun u48 I49 => (∃ f : Nat, wX8_withChain_137 S a1 a2 a3 post f u48 a1 0 I49)) post f 0 (-1) a2 I) := h
  refine V_iconst (v := 0) dX8_withChain_0 (by decide) ?_
  refine V_istore (lo2 := [(4, .int 0), (0, .ref 51), (1, .int a1), (2, .int a2), (3, .int a3)]) dX8_withChain_1 (by decide) rfl ?_
  refine V_iconst (v := (-1)) dX8_withChain_3 (by decide) ?_
  refine V_istore (lo2 := [(5, .int (-1)), (4, .int 0), (0, .ref 51), (1, .int a1), (2, .int a2), (3, .int a3)]) dX8_withChain_4 (by decide) rfl ?_
  refine V_iload_n dX8_withChain_6 rfl rfl ?_
  refine V_istore (lo2 := [(6, .int a2), (5, .int (-1)), (4, .int 0), (0, .ref 51), (1, .int a1), (2, .int a2), (3, .int a3)]) dX8_withChain_7 (by decide) rfl ?_
  refine V_sub (lo2 := [(0, .ref 51), (1, .int a1), (3, .int a3), (4, .int 0), (5, .int (-1)), (6, .int a2)]) [3, 4, 6, 2, 1, 0] rfl ?_
  obtain ⟨f9, h⟩ := h
  refine swX8_withChain_9 hA ?_ f9 _ _ _ _ h
  · intro u48 I49 h
    refine V_iload_n dX8_withChain_131 rfl rfl ?_
    refine V_istore (lo2 := [(6, .int a1), (0, .ref 51), (1, .int a1), (4, .int u48)]) dX8_withChain_132 (by decide) rfl ?_
    refine V_iconst (v := 0) dX8_withChain_134 (by decide) ?_
    refine V_istore (lo2 := [(7, .int 0), (6, .int a1), (0, .ref 51), (1, .int a1), (4, .int u48)]) dX8_withChain_135 (by decide) rfl ?_
    refine V_sub (lo2 := [(0, .ref 51), (4, .int u48), (6, .int a1), (7, .int 0)]) [2, 4, 1, 0] rfl ?_
    obtain ⟨f9, h⟩ := h
    refine swX8_withChain_137 hA f9 _ _ _ _ h
def wX8_become (rec : Int32 → Int32 → QS → QI → Nat → Nat → (Int32 → QS → QI → Prop) → Prop) (a1 : Int32) (a2 : Int32) (S : QS) (I : QI) (c s : Nat) (post : Int32 → QS → QI → Prop) : Prop := (vp_in a1 24 ∧ ((¬ (I 55 (a1).toNatClampNeg) = 0 → (vp_in a1 24 ∧ ((¬ (I 55 (a1).toNatClampNeg) = 4 → (vp_in a1 24 ∧ ((¬ (I 55 (a1).toNatClampNeg) = 2 → (vp_in a1 24 ∧ (∃ c1 s1 : Nat, (0) + c1 ≤ c ∧ (0) + s1 ≤ s ∧ rec (I 56 (a1).toNatClampNeg) (-1) S I c1 s1 (fun r1 S2 I3 => (vp_in a1 24 ∧ ((¬ (I3 57 (a1).toNatClampNeg) = (-1) → (vp_in a1 24 ∧ (∃ c2 s2 : Nat, (0 + c1) + c2 ≤ c ∧ (0 + s1) + s2 ≤ s ∧ rec (I3 57 (a1).toNatClampNeg) (-1) S2 I3 c2 s2 (fun r4 S5 I6 => (vp_in a1 24 ∧ (vp_in a1 24 ∧ (vp_in a1 24 ∧ (vp_in a1 24 ∧ (wX8_place (I6 55 (a1).toNatClampNeg) r1 r4 (I6 58 (a1).toNatClampNeg) (I6 59 (a1).toNatClampNeg) (I6 60 (a1).toNatClampNeg) I6 (fun r8 I7 => (wX8_withChain r8 a2 a1 S5 I7 (fun r9 I10 => post r9 S5 I10)))))))))))) ∧ ((I3 57 (a1).toNatClampNeg) = (-1) → (vp_in a1 24 ∧ (vp_in a1 24 ∧ (vp_in a1 24 ∧ (vp_in a1 24 ∧ (wX8_place (I3 55 (a1).toNatClampNeg) r1 (-1) (I3 58 (a1).toNatClampNeg) (I3 59 (a1).toNatClampNeg) (I3 60 (a1).toNatClampNeg) I3 (fun r12 I11 => (wX8_withChain r12 a2 a1 S2 I11 (fun r13 I14 => post r13 S2 I14))))))))))))))) ∧ ((I 55 (a1).toNatClampNeg) = 2 → (vp_in a1 24 ∧ (∃ c3 s3 : Nat, (0) + c3 ≤ c ∧ (0) + s3 ≤ s ∧ wX8_partOf 30 a2 a1 0 (-1) S I c3 s3 (fun r15 S16 I17 => (∃ c4 s4 : Nat, (0 + c3) + c4 ≤ c ∧ (0 + s3) + s4 ≤ s ∧ rec (I 56 (a1).toNatClampNeg) r15 S16 I17 c4 s4 (fun r18 S19 I20 => (vp_in a1 24 ∧ ((¬ (I20 57 (a1).toNatClampNeg) = (-1) → (vp_in a1 24 ∧ (∃ c5 s5 : Nat, (0 + c3 + c4) + c5 ≤ c ∧ (0 + s3 + s4) + s5 ≤ s ∧ wX8_partOf 30 a2 a1 1 (-1) S19 I20 c5 s5 (fun r21 S22 I23 => (∃ c6 s6 : Nat, (0 + c3 + c4 + c5) + c6 ≤ c ∧ (0 + s3 + s4 + s5) + s6 ≤ s ∧ rec (I20 57 (a1).toNatClampNeg) r21 S22 I23 c6 s6 (fun r24 S25 I26 => (vp_in a1 24 ∧ (vp_in a1 24 ∧ (vp_in a1 24 ∧ (vp_in a1 24 ∧ (wX8_place (I26 55 (a1).toNatClampNeg) r18 r24 (I26 58 (a1).toNatClampNeg) (I26 59 (a1).toNatClampNeg) (I26 60 (a1).toNatClampNeg) I26 (fun r28 I27 => (wX8_withChain r28 a2 a1 S25 I27 (fun r29 I30 => post r29 S25 I30)))))))))))))) ∧ ((I20 57 (a1).toNatClampNeg) = (-1) → (vp_in a1 24 ∧ (vp_in a1 24 ∧ (vp_in a1 24 ∧ (vp_in a1 24 ∧ (wX8_place (I20 55 (a1).toNatClampNeg) r18 (-1) (I20 58 (a1).toNatClampNeg) (I20 59 (a1).toNatClampNeg) (I20 60 (a1).toNatClampNeg) I20 (fun r32 I31 => (wX8_withChain r32 a2 a1 S19 I31 (fun r33 I34 => post r33 S19 I34)))))))))))))))))))) ∧ ((I 55 (a1).toNatClampNeg) = 4 → (vp_in a1 24 ∧ ((¬ (I 58 (a1).toNatClampNeg) = 0 → (vp_in a1 24 ∧ ((¬ (I 55 (a1).toNatClampNeg) = 2 → (vp_in a1 24 ∧ (∃ c7 s7 : Nat, (0) + c7 ≤ c ∧ (0) + s7 ≤ s ∧ rec (I 56 (a1).toNatClampNeg) (-1) S I c7 s7 (fun r35 S36 I37 => (vp_in a1 24 ∧ ((¬ (I37 57 (a1).toNatClampNeg) = (-1) → (vp_in a1 24 ∧ (∃ c8 s8 : Nat, (0 + c7) + c8 ≤ c ∧ (0 + s7) + s8 ≤ s ∧ rec (I37 57 (a1).toNatClampNeg) (-1) S36 I37 c8 s8 (fun r38 S39 I40 => (vp_in a1 24 ∧ (vp_in a1 24 ∧ (vp_in a1 24 ∧ (vp_in a1 24 ∧ (wX8_place (I40 55 (a1).toNatClampNeg) r35 r38 (I40 58 (a1).toNatClampNeg) (I40 59 (a1).toNatClampNeg) (I40 60 (a1).toNatClampNeg) I40 (fun r42 I41 => (wX8_withChain r42 a2 a1 S39 I41 (fun r43 I44 => post r43 S39 I44)))))))))))) ∧ ((I37 57 (a1).toNatClampNeg) = (-1) → (vp_in a1 24 ∧ (vp_in a1 24 ∧ (vp_in a1 24 ∧ (vp_in a1 24 ∧ (wX8_place (I37 55 (a1).toNatClampNeg) r35 (-1) (I37 58 (a1).toNatClampNeg) (I37 59 (a1).toNatClampNeg) (I37 60 (a1).toNatClampNeg) I37 (fun r46 I45 => (wX8_withChain r46 a2 a1 S36 I45 (fun r47 I48 => post r47 S36 I48))))))))))))))) ∧ ((I 55 (a1).toNatClampNeg) = 2 → (vp_in a1 24 ∧ (∃ c9 s9 : Nat, (0) + c9 ≤ c ∧ (0) + s9 ≤ s ∧ wX8_partOf 30 a2 a1 0 (-1) S I c9 s9 (fun r49 S50 I51 => (∃ c10 s10 : Nat, (0 + c9) + c10 ≤ c ∧ (0 + s9) + s10 ≤ s ∧ rec (I 56 (a1).toNatClampNeg) r49 S50 I51 c10 s10 (fun r52 S53 I54 => (vp_in a1 24 ∧ ((¬ (I54 57 (a1).toNatClampNeg) = (-1) → (vp_in a1 24 ∧ (∃ c11 s11 : Nat, (0 + c9 + c10) + c11 ≤ c ∧ (0 + s9 + s10) + s11 ≤ s ∧ wX8_partOf 30 a2 a1 1 (-1) S53 I54 c11 s11 (fun r55 S56 I57 => (∃ c12 s12 : Nat, (0 + c9 + c10 + c11) + c12 ≤ c ∧ (0 + s9 + s10 + s11) + s12 ≤ s ∧ rec (I54 57 (a1).toNatClampNeg) r55 S56 I57 c12 s12 (fun r58 S59 I60 => (vp_in a1 24 ∧ (vp_in a1 24 ∧ (vp_in a1 24 ∧ (vp_in a1 24 ∧ (wX8_place (I60 55 (a1).toNatClampNeg) r52 r58 (I60 58 (a1).toNatClampNeg) (I60 59 (a1).toNatClampNeg) (I60 60 (a1).toNatClampNeg) I60 (fun r62 I61 => (wX8_withChain r62 a2 a1 S59 I61 (fun r63 I64 => post r63 S59 I64)))))))))))))) ∧ ((I54 57 (a1).toNatClampNeg) = (-1) → (vp_in a1 24 ∧ (vp_in a1 24 ∧ (vp_in a1 24 ∧ (vp_in a1 24 ∧ (wX8_place (I54 55 (a1).toNatClampNeg) r52 (-1) (I54 58 (a1).toNatClampNeg) (I54 59 (a1).toNatClampNeg) (I54 60 (a1).toNatClampNeg) I54 (fun r66 I65 => (wX8_withChain r66 a2 a1 S53 I65 (fun r67 I68 => post r67 S53 I68)))))))))))))))))))) ∧ ((I 58 (a1).toNatClampNeg) = 0 → (vp_in a1 24 ∧ (∃ c13 s13 : Nat, (0) + c13 ≤ c ∧ (0) + s13 ≤ s ∧ rec (I 56 (a1).toNatClampNeg) a2 S I c13 s13 (fun r69 S70 I71 => (vp_in a1 24 ∧ (∃ c14 s14 : Nat, (0 + c13) + c14 ≤ c ∧ (0 + s13) + s14 ≤ s ∧ rec (I71 57 (a1).toNatClampNeg) a2 S70 I71 c14 s14 (fun r72 S73 I74 => (wX8_place 4 r69 r72 0 0 0 I74 (fun r76 I75 => post r76 S73 I75))))))))))))))) ∧ ((I 55 (a1).toNatClampNeg) = 0 → (wX8_withChain a1 a2 a1 S I (fun r77 I78 => post r77 S I78)))))
set_option maxRecDepth 100000 in
set_option maxHeartbeats 4000000 in
theorem s_mX8_become {X : QX} {rec : Int32 → Int32 → QS → QI → Nat → Nat → (Int32 → QS → QI → Prop) → Prop} {D : Nat} (hD : 50 ≤ D) (hrec : ∀ (a1 a2 : Int32) (S : QS) (I : QI) (J : QJ) (c s : Nat) (post : Int32 → QS → QI → Prop), Sa S → rec a1 a2 S I c s post → CX X mX8_finished D c s [.ref 51, .int a1, .int a2] S I J (q_Pa S J post)) {S : QS} {a1 a2 : Int32} {I : QI} {J : QJ} {c s : Nat} {post : Int32 → QS → QI → Prop} (hA : Sa S) (h : wX8_become rec a1 a2 S I c s post) : CX X mX8_become (D + 1) c s [.ref 51, .int a1, .int a2] S I J (q_Pa S J post) := by
  have hS := hA.1
  have hE : Ex S S := Ex.rf
  refine CX.of (lo := [(0, .ref 51), (1, .int a1), (2, .int a2)]) ok_mX8_become rfl (Nat.le_of_ble_eq_true rfl) rfl ?_
  replace h : (vp_in a1 24 ∧ ((¬ (I 55 (a1).toNatClampNeg) = 0 → (vp_in a1 24 ∧ ((¬ (I 55 (a1).toNatClampNeg) = 4 → (vp_in a1 24 ∧ ((¬ (I 55 (a1).toNatClampNeg) = 2 → (vp_in a1 24 ∧ (∃ c1 s1 : Nat, (0) + c1 ≤ c ∧ (0) + s1 ≤ s ∧ rec (I 56 (a1).toNatClampNeg) (-1) S I c1 s1 (fun r1 S2 I3 => (vp_in a1 24 ∧ ((¬ (I3 57 (a1).toNatClampNeg) = (-1) → (vp_in a1 24 ∧ (∃ c2 s2 : Nat, (0 + c1) + c2 ≤ c ∧ (0 + s1) + s2 ≤ s ∧ rec (I3 57 (a1).toNatClampNeg) (-1) S2 I3 c2 s2 (fun r4 S5 I6 => (vp_in a1 24 ∧ (vp_in a1 24 ∧ (vp_in a1 24 ∧ (vp_in a1 24 ∧ (wX8_place (I6 55 (a1).toNatClampNeg) r1 r4 (I6 58 (a1).toNatClampNeg) (I6 59 (a1).toNatClampNeg) (I6 60 (a1).toNatClampNeg) I6 (fun r8 I7 => (wX8_withChain r8 a2 a1 S5 I7 (fun r9 I10 => post r9 S5 I10)))))))))))) ∧ ((I3 57 (a1).toNatClampNeg) = (-1) → (vp_in a1 24 ∧ (vp_in a1 24 ∧ (vp_in a1 24 ∧ (vp_in a1 24 ∧ (wX8_place (I3 55 (a1).toNatClampNeg) r1 (-1) (I3 58 (a1).toNatClampNeg) (I3 59 (a1).toNatClampNeg) (I3 60 (a1).toNatClampNeg) I3 (fun r12 I11 => (wX8_withChain r12 a2 a1 S2 I11 (fun r13 I14 => post r13 S2 I14))))))))))))))) ∧ ((I 55 (a1).toNatClampNeg) = 2 → (vp_in a1 24 ∧ (∃ c3 s3 : Nat, (0) + c3 ≤ c ∧ (0) + s3 ≤ s ∧ wX8_partOf 30 a2 a1 0 (-1) S I c3 s3 (fun r15 S16 I17 => (∃ c4 s4 : Nat, (0 + c3) + c4 ≤ c ∧ (0 + s3) + s4 ≤ s ∧ rec (I 56 (a1).toNatClampNeg) r15 S16 I17 c4 s4 (fun r18 S19 I20 => (vp_in a1 24 ∧ ((¬ (I20 57 (a1).toNatClampNeg) = (-1) → (vp_in a1 24 ∧ (∃ c5 s5 : Nat, (0 + c3 + c4) + c5 ≤ c ∧ (0 + s3 + s4) + s5 ≤ s ∧ wX8_partOf 30 a2 a1 1 (-1) S19 I20 c5 s5 (fun r21 S22 I23 => (∃ c6 s6 : Nat, (0 + c3 + c4 + c5) + c6 ≤ c ∧ (0 + s3 + s4 + s5) + s6 ≤ s ∧ rec (I20 57 (a1).toNatClampNeg) r21 S22 I23 c6 s6 (fun r24 S25 I26 => (vp_in a1 24 ∧ (vp_in a1 24 ∧ (vp_in a1 24 ∧ (vp_in a1 24 ∧ (wX8_place (I26 55 (a1).toNatClampNeg) r18 r24 (I26 58 (a1).toNatClampNeg) (I26 59 (a1).toNatClampNeg) (I26 60 (a1).toNatClampNeg) I26 (fun r28 I27 => (wX8_withChain r28 a2 a1 S25 I27 (fun r29 I30 => post r29 S25 I30)))))))))))))) ∧ ((I20 57 (a1).toNatClampNeg) = (-1) → (vp_in a1 24 ∧ (vp_in a1 24 ∧ (vp_in a1 24 ∧ (vp_in a1 24 ∧ (wX8_place (I20 55 (a1).toNatClampNeg) r18 (-1) (I20 58 (a1).toNatClampNeg) (I20 59 (a1).toNatClampNeg) (I20 60 (a1).toNatClampNeg) I20 (fun r32 I31 => (wX8_withChain r32 a2 a1 S19 I31 (fun r33 I34 => post r33 S19 I34)))))))))))))))))))) ∧ ((I 55 (a1).toNatClampNeg) = 4 → (vp_in a1 24 ∧ ((¬ (I 58 (a1).toNatClampNeg) = 0 → (vp_in a1 24 ∧ ((¬ (I 55 (a1).toNatClampNeg) = 2 → (vp_in a1 24 ∧ (∃ c7 s7 : Nat, (0) + c7 ≤ c ∧ (0) + s7 ≤ s ∧ rec (I 56 (a1).toNatClampNeg) (-1) S I c7 s7 (fun r35 S36 I37 => (vp_in a1 24 ∧ ((¬ (I37 57 (a1).toNatClampNeg) = (-1) → (vp_in a1 24 ∧ (∃ c8 s8 : Nat, (0 + c7) + c8 ≤ c ∧ (0 + s7) + s8 ≤ s ∧ rec (I37 57 (a1).toNatClampNeg) (-1) S36 I37 c8 s8 (fun r38 S39 I40 => (vp_in a1 24 ∧ (vp_in a1 24 ∧ (vp_in a1 24 ∧ (vp_in a1 24 ∧ (wX8_place (I40 55 (a1).toNatClampNeg) r35 r38 (I40 58 (a1).toNatClampNeg) (I40 59 (a1).toNatClampNeg) (I40 60 (a1).toNatClampNeg) I40 (fun r42 I41 => (wX8_withChain r42 a2 a1 S39 I41 (fun r43 I44 => post r43 S39 I44)))))))))))) ∧ ((I37 57 (a1).toNatClampNeg) = (-1) → (vp_in a1 24 ∧ (vp_in a1 24 ∧ (vp_in a1 24 ∧ (vp_in a1 24 ∧ (wX8_place (I37 55 (a1).toNatClampNeg) r35 (-1) (I37 58 (a1).toNatClampNeg) (I37 59 (a1).toNatClampNeg) (I37 60 (a1).toNatClampNeg) I37 (fun r46 I45 => (wX8_withChain r46 a2 a1 S36 I45 (fun r47 I48 => post r47 S36 I48))))))))))))))) ∧ ((I 55 (a1).toNatClampNeg) = 2 → (vp_in a1 24 ∧ (∃ c9 s9 : Nat, (0) + c9 ≤ c ∧ (0) + s9 ≤ s ∧ wX8_partOf 30 a2 a1 0 (-1) S I c9 s9 (fun r49 S50 I51 => (∃ c10 s10 : Nat, (0 + c9) + c10 ≤ c ∧ (0 + s9) + s10 ≤ s ∧ rec (I 56 (a1).toNatClampNeg) r49 S50 I51 c10 s10 (fun r52 S53 I54 => (vp_in a1 24 ∧ ((¬ (I54 57 (a1).toNatClampNeg) = (-1) → (vp_in a1 24 ∧ (∃ c11 s11 : Nat, (0 + c9 + c10) + c11 ≤ c ∧ (0 + s9 + s10) + s11 ≤ s ∧ wX8_partOf 30 a2 a1 1 (-1) S53 I54 c11 s11 (fun r55 S56 I57 => (∃ c12 s12 : Nat, (0 + c9 + c10 + c11) + c12 ≤ c ∧ (0 + s9 + s10 + s11) + s12 ≤ s ∧ rec (I54 57 (a1).toNatClampNeg) r55 S56 I57 c12 s12 (fun r58 S59 I60 => (vp_in a1 24 ∧ (vp_in a1 24 ∧ (vp_in a1 24 ∧ (vp_in a1 24 ∧ (wX8_place (I60 55 (a1).toNatClampNeg) r52 r58 (I60 58 (a1).toNatClampNeg) (I60 59 (a1).toNatClampNeg) (I60 60 (a1).toNatClampNeg) I60 (fun r62 I61 => (wX8_withChain r62 a2 a1 S59 I61 (fun r63 I64 => post r63 S59 I64)))))))))))))) ∧ ((I54 57 (a1).toNatClampNeg) = (-1) → (vp_in a1 24 ∧ (vp_in a1 24 ∧ (vp_in a1 24 ∧ (vp_in a1 24 ∧ (wX8_place (I54 55 (a1).toNatClampNeg) r52 (-1) (I54 58 (a1).toNatClampNeg) (I54 59 (a1).toNatClampNeg) (I54 60 (a1).toNatClampNeg) I54 (fun r66 I65 => (wX8_withChain r66 a2 a1 S53 I65 (fun r67 I68 => post r67 S53 I68)))))))))))))))))))) ∧ ((I 58 (a1).toNatClampNeg) = 0 → (vp_in a1 24 ∧ (∃ c13 s13 : Nat, (0) + c13 ≤ c ∧ (0) + s13 ≤ s ∧ rec (I 56 (a1).toNatClampNeg) a2 S I c13 s13 (fun r69 S70 I71 => (vp_in a1 24 ∧ (∃ c14 s14 : Nat, (0 + c13) + c14 ≤ c ∧ (0 + s13) + s14 ≤ s ∧ rec (I71 57 (a1).toNatClampNeg) a2 S70 I71 c14 s14 (fun r72 S73 I74 => (wX8_place 4 r69 r72 0 0 0 I74 (fun r76 I75 => post r76 S73 I75))))))))))))))) ∧ ((I 55 (a1).toNatClampNeg) = 0 → (wX8_withChain a1 a2 a1 S I (fun r77 I78 => post r77 S I78))))) := h
  refine V_aload_n dX8_become_0 rfl rfl ?_
  refine V_getr dX8_become_1 fl_RX8_19 (hS.n 51 rfl) (hS.k 51 8 rfl) rfl (hS.r 51 6 55 rfl) ?_
  refine V_iload_n dX8_become_4 rfl rfl ?_
  obtain ⟨hb, h⟩ := h
  refine V_iald dX8_become_5 (hS.n 55 rfl) (hS.k 55 9 rfl) (by rw [(hS.z 55 24 rfl)]; exact hb) ?_
  refine V_if_ne 17 dX8_become_6 rfl (fun hc => ?_) (fun hc => ?_)
  · replace h := h.1 hc
    refine V_aload_n dX8_become_17 rfl rfl ?_
    refine V_getr dX8_become_18 fl_RX8_19 (hS.n 51 rfl) (hS.k 51 8 rfl) rfl (hS.r 51 6 55 rfl) ?_
    refine V_iload_n dX8_become_21 rfl rfl ?_
    obtain ⟨hb, h⟩ := h
    refine V_iald dX8_become_22 (hS.n 55 rfl) (hS.k 55 9 rfl) (by rw [(hS.z 55 24 rfl)]; exact hb) ?_
    refine V_iconst (v := 4) dX8_become_23 (by decide) ?_
    refine V_icmp_ne 69 dX8_become_24 rfl (fun hc => ?_) (fun hc => ?_)
    · replace h := h.1 hc
      refine V_aload_n dX8_become_69 rfl rfl ?_
      refine V_getr dX8_become_70 fl_RX8_19 (hS.n 51 rfl) (hS.k 51 8 rfl) rfl (hS.r 51 6 55 rfl) ?_
      refine V_iload_n dX8_become_73 rfl rfl ?_
      obtain ⟨hb, h⟩ := h
      refine V_iald dX8_become_74 (hS.n 55 rfl) (hS.k 55 9 rfl) (by rw [(hS.z 55 24 rfl)]; exact hb) ?_
      refine V_iconst (v := 2) dX8_become_75 (by decide) ?_
      refine V_icmp_ne 83 dX8_become_76 rfl (fun hc => ?_) (fun hc => ?_)
      · replace h := h.1 hc
        refine V_iconst (v := 0) dX8_become_83 (by decide) ?_
        refine V_istore_n (lo2 := [(3, .int 0), (0, .ref 51), (1, .int a1), (2, .int a2)]) dX8_become_84 rfl (by decide) rfl ?_
        refine V_aload_n dX8_become_85 rfl rfl ?_
        refine V_aload_n dX8_become_86 rfl rfl ?_
        refine V_getr dX8_become_87 fl_RX8_22 (hS.n 51 rfl) (hS.k 51 8 rfl) rfl (hS.r 51 7 56 rfl) ?_
        refine V_iload_n dX8_become_90 rfl rfl ?_
        obtain ⟨hb, h⟩ := h
        refine V_iald dX8_become_91 (hS.n 56 rfl) (hS.k 56 9 rfl) (by rw [(hS.z 56 24 rfl)]; exact hb) ?_
        refine V_iload_n dX8_become_92 rfl rfl ?_
        refine V_if_eq 107 dX8_become_93 rfl (fun hc => ?_) (fun hc => ?_)
        · refine V_iconst (v := (-1)) dX8_become_107 (by decide) ?_
          obtain ⟨c1, s1, hcc1, hss1, h⟩ := h
          refine V_callVa (st := []) [.int (I 56 (a1).toNatClampNeg), .int (-1)] dX8_become_108 ok_mX8_finished rfl ml_RX8_238 in_mX8_finished se_mX8_finished (hS.n 51 rfl) (hS.k 51 8 rfl) (by decide) rfl (Nat.le_of_ble_eq_true rfl) (by omega) hcc1 hss1 (q_vb80 hS rfl) (q_vb80 hS rfl) (hrec _ _ _ _ _ _ _ _ hA h) (fun r1 S2 I3 hA9 hE9 h => ?_)
          replace hE9 := hE.tr hE9
          clear hA hE hS
          have hA := hA9
          have hE := hE9
          have hS := hA.1
          refine V_istore (lo2 := [(4, .int r1), (3, .int 0), (0, .ref 51), (1, .int a1), (2, .int a2)]) dX8_become_111 (by decide) rfl ?_
          refine V_aload_n dX8_become_113 rfl rfl ?_
          refine V_getr dX8_become_114 fl_RX8_25 (hS.n 51 rfl) (hS.k 51 8 rfl) rfl (hS.r 51 8 57 rfl) ?_
          refine V_iload_n dX8_become_117 rfl rfl ?_
          obtain ⟨hb, h⟩ := h
          refine V_iald dX8_become_118 (hS.n 57 rfl) (hS.k 57 9 rfl) (by rw [(hS.z 57 24 rfl)]; exact hb) ?_
          refine V_iconst (v := (-1)) dX8_become_119 (by decide) ?_
          refine V_icmp_ne 127 dX8_become_120 rfl (fun hc => ?_) (fun hc => ?_)
          · replace h := h.1 hc
            refine V_aload_n dX8_become_127 rfl rfl ?_
            refine V_aload_n dX8_become_128 rfl rfl ?_
            refine V_getr dX8_become_129 fl_RX8_25 (hS.n 51 rfl) (hS.k 51 8 rfl) rfl (hS.r 51 8 57 rfl) ?_
            refine V_iload_n dX8_become_132 rfl rfl ?_
            obtain ⟨hb, h⟩ := h
            refine V_iald dX8_become_133 (hS.n 57 rfl) (hS.k 57 9 rfl) (by rw [(hS.z 57 24 rfl)]; exact hb) ?_
            refine V_iload_n dX8_become_134 rfl rfl ?_
            refine V_if_eq 149 dX8_become_135 rfl (fun hc => ?_) (fun hc => ?_)
            · refine V_iconst (v := (-1)) dX8_become_149 (by decide) ?_
              obtain ⟨c2, s2, hcc2, hss2, h⟩ := h
              refine V_callVa (st := []) [.int (I3 57 (a1).toNatClampNeg), .int (-1)] dX8_become_150 ok_mX8_finished rfl ml_RX8_238 in_mX8_finished se_mX8_finished (hS.n 51 rfl) (hS.k 51 8 rfl) (by decide) rfl (Nat.le_of_ble_eq_true rfl) (by omega) hcc2 hss2 (q_vb80 hS rfl) (q_vb80 hS rfl) (hrec _ _ _ _ _ _ _ _ hA h) (fun r4 S5 I6 hA9 hE9 h => ?_)
              replace hE9 := hE.tr hE9
              clear hA hE hS
              have hA := hA9
              have hE := hE9
              have hS := hA.1
              refine V_istore (lo2 := [(5, .int r4), (4, .int r1), (3, .int 0), (0, .ref 51), (1, .int a1), (2, .int a2)]) dX8_become_153 (by decide) rfl ?_
              refine V_aload_n dX8_become_155 rfl rfl ?_
              refine V_aload_n dX8_become_156 rfl rfl ?_
              refine V_aload_n dX8_become_157 rfl rfl ?_
              refine V_getr dX8_become_158 fl_RX8_19 (hS.n 51 rfl) (hS.k 51 8 rfl) rfl (hS.r 51 6 55 rfl) ?_
              refine V_iload_n dX8_become_161 rfl rfl ?_
              obtain ⟨hb, h⟩ := h
              refine V_iald dX8_become_162 (hS.n 55 rfl) (hS.k 55 9 rfl) (by rw [(hS.z 55 24 rfl)]; exact hb) ?_
              refine V_iload dX8_become_163 rfl ?_
              refine V_iload dX8_become_165 rfl ?_
              refine V_aload_n dX8_become_167 rfl rfl ?_
              refine V_getr dX8_become_168 fl_RX8_28 (hS.n 51 rfl) (hS.k 51 8 rfl) rfl (hS.r 51 9 58 rfl) ?_
              refine V_iload_n dX8_become_171 rfl rfl ?_
              obtain ⟨hb, h⟩ := h
              refine V_iald dX8_become_172 (hS.n 58 rfl) (hS.k 58 9 rfl) (by rw [(hS.z 58 24 rfl)]; exact hb) ?_
              refine V_aload_n dX8_become_173 rfl rfl ?_
              refine V_getr dX8_become_174 fl_RX8_31 (hS.n 51 rfl) (hS.k 51 8 rfl) rfl (hS.r 51 10 59 rfl) ?_
              refine V_iload_n dX8_become_177 rfl rfl ?_
              obtain ⟨hb, h⟩ := h
              refine V_iald dX8_become_178 (hS.n 59 rfl) (hS.k 59 9 rfl) (by rw [(hS.z 59 24 rfl)]; exact hb) ?_
              refine V_aload_n dX8_become_179 rfl rfl ?_
              refine V_getr dX8_become_180 fl_RX8_34 (hS.n 51 rfl) (hS.k 51 8 rfl) rfl (hS.r 51 11 60 rfl) ?_
              refine V_iload_n dX8_become_183 rfl rfl ?_
              obtain ⟨hb, h⟩ := h
              refine V_iald dX8_become_184 (hS.n 60 rfl) (hS.k 60 9 rfl) (by rw [(hS.z 60 24 rfl)]; exact hb) ?_
              refine V_callVi (st := [.ref 51]) [.int (I6 55 (a1).toNatClampNeg), .int r1, .int r4, .int (I6 58 (a1).toNatClampNeg), .int (I6 59 (a1).toNatClampNeg), .int (I6 60 (a1).toNatClampNeg)] dX8_become_185 ok_mX8_place rfl ml_RX8_232 in_mX8_place se_mX8_place (hS.n 51 rfl) (hS.k 51 8 rfl) (by decide) rfl (Nat.le_of_ble_eq_true rfl) (by omega) (by omega) (by omega) (s_mX8_place hS h) (fun r8 I7 J9 h => ?_)
              obtain ⟨rfl, h⟩ := h
              refine V_iload_n dX8_become_188 rfl rfl ?_
              refine V_iload_n dX8_become_189 rfl rfl ?_
              refine V_callVi (st := []) [.int r8, .int a2, .int a1] dX8_become_190 ok_mX8_withChain rfl ml_RX8_235 in_mX8_withChain se_mX8_withChain (hS.n 51 rfl) (hS.k 51 8 rfl) (by decide) rfl (Nat.le_of_ble_eq_true rfl) (by omega) (by omega) (by omega) (s_mX8_withChain hA h) (fun r9 I10 J9 h => ?_)
              obtain ⟨rfl, h⟩ := h
              exact V_iret dX8_become_193 rfl (by omega) (by omega) ⟨_, rfl, rfl, hA, hE, h⟩
            · first | exact absurd hc (by decide) | exact absurd (by decide) hc
          · replace h := h.2 hc
            refine V_iconst (v := (-1)) dX8_become_123 (by decide) ?_
            refine V_goto 153 dX8_become_124 rfl ?_
            refine V_istore (lo2 := [(5, .int (-1)), (4, .int r1), (3, .int 0), (0, .ref 51), (1, .int a1), (2, .int a2)]) dX8_become_153 (by decide) rfl ?_
            refine V_aload_n dX8_become_155 rfl rfl ?_
            refine V_aload_n dX8_become_156 rfl rfl ?_
            refine V_aload_n dX8_become_157 rfl rfl ?_
            refine V_getr dX8_become_158 fl_RX8_19 (hS.n 51 rfl) (hS.k 51 8 rfl) rfl (hS.r 51 6 55 rfl) ?_
            refine V_iload_n dX8_become_161 rfl rfl ?_
            obtain ⟨hb, h⟩ := h
            refine V_iald dX8_become_162 (hS.n 55 rfl) (hS.k 55 9 rfl) (by rw [(hS.z 55 24 rfl)]; exact hb) ?_
            refine V_iload dX8_become_163 rfl ?_
            refine V_iload dX8_become_165 rfl ?_
            refine V_aload_n dX8_become_167 rfl rfl ?_
            refine V_getr dX8_become_168 fl_RX8_28 (hS.n 51 rfl) (hS.k 51 8 rfl) rfl (hS.r 51 9 58 rfl) ?_
            refine V_iload_n dX8_become_171 rfl rfl ?_
            obtain ⟨hb, h⟩ := h
            refine V_iald dX8_become_172 (hS.n 58 rfl) (hS.k 58 9 rfl) (by rw [(hS.z 58 24 rfl)]; exact hb) ?_
            refine V_aload_n dX8_become_173 rfl rfl ?_
            refine V_getr dX8_become_174 fl_RX8_31 (hS.n 51 rfl) (hS.k 51 8 rfl) rfl (hS.r 51 10 59 rfl) ?_
            refine V_iload_n dX8_become_177 rfl rfl ?_
            obtain ⟨hb, h⟩ := h
            refine V_iald dX8_become_178 (hS.n 59 rfl) (hS.k 59 9 rfl) (by rw [(hS.z 59 24 rfl)]; exact hb) ?_
            refine V_aload_n dX8_become_179 rfl rfl ?_
            refine V_getr dX8_become_180 fl_RX8_34 (hS.n 51 rfl) (hS.k 51 8 rfl) rfl (hS.r 51 11 60 rfl) ?_
            refine V_iload_n dX8_become_183 rfl rfl ?_
            obtain ⟨hb, h⟩ := h
            refine V_iald dX8_become_184 (hS.n 60 rfl) (hS.k 60 9 rfl) (by rw [(hS.z 60 24 rfl)]; exact hb) ?_
            refine V_callVi (st := [.ref 51]) [.int (I3 55 (a1).toNatClampNeg), .int r1, .int (-1), .int (I3 58 (a1).toNatClampNeg), .int (I3 59 (a1).toNatClampNeg), .int (I3 60 (a1).toNatClampNeg)] dX8_become_185 ok_mX8_place rfl ml_RX8_232 in_mX8_place se_mX8_place (hS.n 51 rfl) (hS.k 51 8 rfl) (by decide) rfl (Nat.le_of_ble_eq_true rfl) (by omega) (by omega) (by omega) (s_mX8_place hS h) (fun r12 I11 J9 h => ?_)
            obtain ⟨rfl, h⟩ := h
            refine V_iload_n dX8_become_188 rfl rfl ?_
            refine V_iload_n dX8_become_189 rfl rfl ?_
            refine V_callVi (st := []) [.int r12, .int a2, .int a1] dX8_become_190 ok_mX8_withChain rfl ml_RX8_235 in_mX8_withChain se_mX8_withChain (hS.n 51 rfl) (hS.k 51 8 rfl) (by decide) rfl (Nat.le_of_ble_eq_true rfl) (by omega) (by omega) (by omega) (s_mX8_withChain hA h) (fun r13 I14 J9 h => ?_)
            obtain ⟨rfl, h⟩ := h
            exact V_iret dX8_become_193 rfl (by omega) (by omega) ⟨_, rfl, rfl, hA, hE, h⟩
        · first | exact absurd hc (by decide) | exact absurd (by decide) hc
      · replace h := h.2 hc
        refine V_iconst (v := 1) dX8_become_79 (by decide) ?_
        refine V_goto 84 dX8_become_80 rfl ?_
        refine V_istore_n (lo2 := [(3, .int 1), (0, .ref 51), (1, .int a1), (2, .int a2)]) dX8_become_84 rfl (by decide) rfl ?_
        refine V_aload_n dX8_become_85 rfl rfl ?_
        refine V_aload_n dX8_become_86 rfl rfl ?_
        refine V_getr dX8_become_87 fl_RX8_22 (hS.n 51 rfl) (hS.k 51 8 rfl) rfl (hS.r 51 7 56 rfl) ?_
        refine V_iload_n dX8_become_90 rfl rfl ?_
        obtain ⟨hb, h⟩ := h
        refine V_iald dX8_become_91 (hS.n 56 rfl) (hS.k 56 9 rfl) (by rw [(hS.z 56 24 rfl)]; exact hb) ?_
        refine V_iload_n dX8_become_92 rfl rfl ?_
        refine V_if_eq 107 dX8_become_93 rfl (fun hc => ?_) (fun hc => ?_)
        · first | exact absurd hc (by decide) | exact absurd (by decide) hc
        · refine V_aload_n dX8_become_96 rfl rfl ?_
          refine V_iload_n dX8_become_97 rfl rfl ?_
          refine V_iload_n dX8_become_98 rfl rfl ?_
          refine V_iconst (v := 0) dX8_become_99 (by decide) ?_
          refine V_iconst (v := (-1)) dX8_become_100 (by decide) ?_
          obtain ⟨c3, s3, hcc3, hss3, h⟩ := h
          refine V_callVa (st := [.int (I 56 (a1).toNatClampNeg), .ref 51]) [.int a2, .int a1, .int 0, .int (-1)] dX8_become_101 ok_mX8_partOf rfl ml_RX8_221 in_mX8_partOf se_mX8_partOf (hS.n 51 rfl) (hS.k 51 8 rfl) (by decide) rfl (Nat.le_of_ble_eq_true rfl) (by omega) hcc3 hss3 (q_vb80 hS rfl) (q_vb80 hS rfl) (s_mX8_partOf 30 _ _ _ _ _ _ _ _ _ _ hA h) (fun r15 S16 I17 hA9 hE9 h => ?_)
          replace hE9 := hE.tr hE9
          clear hA hE hS
          have hA := hA9
          have hE := hE9
          have hS := hA.1
          refine V_goto 108 dX8_become_104 rfl ?_
          obtain ⟨c4, s4, hcc4, hss4, h⟩ := h
          refine V_callVa (st := []) [.int (I 56 (a1).toNatClampNeg), .int r15] dX8_become_108 ok_mX8_finished rfl ml_RX8_238 in_mX8_finished se_mX8_finished (hS.n 51 rfl) (hS.k 51 8 rfl) (by decide) rfl (Nat.le_of_ble_eq_true rfl) (by omega) hcc4 hss4 (q_vb80 hS rfl) (q_vb80 hS rfl) (hrec _ _ _ _ _ _ _ _ hA h) (fun r18 S19 I20 hA9 hE9 h => ?_)
          replace hE9 := hE.tr hE9
          clear hA hE hS
          have hA := hA9
          have hE := hE9
          have hS := hA.1
          refine V_istore (lo2 := [(4, .int r18), (3, .int 1), (0, .ref 51), (1, .int a1), (2, .int a2)]) dX8_become_111 (by decide) rfl ?_
          refine V_aload_n dX8_become_113 rfl rfl ?_
          refine V_getr dX8_become_114 fl_RX8_25 (hS.n 51 rfl) (hS.k 51 8 rfl) rfl (hS.r 51 8 57 rfl) ?_
          refine V_iload_n dX8_become_117 rfl rfl ?_
          obtain ⟨hb, h⟩ := h
          refine V_iald dX8_become_118 (hS.n 57 rfl) (hS.k 57 9 rfl) (by rw [(hS.z 57 24 rfl)]; exact hb) ?_
          refine V_iconst (v := (-1)) dX8_become_119 (by decide) ?_
          refine V_icmp_ne 127 dX8_become_120 rfl (fun hc => ?_) (fun hc => ?_)
          · replace h := h.1 hc
            refine V_aload_n dX8_become_127 rfl rfl ?_
            refine V_aload_n dX8_become_128 rfl rfl ?_
            refine V_getr dX8_become_129 fl_RX8_25 (hS.n 51 rfl) (hS.k 51 8 rfl) rfl (hS.r 51 8 57 rfl) ?_
            refine V_iload_n dX8_become_132 rfl rfl ?_
            obtain ⟨hb, h⟩ := h
            refine V_iald dX8_become_133 (hS.n 57 rfl) (hS.k 57 9 rfl) (by rw [(hS.z 57 24 rfl)]; exact hb) ?_
            refine V_iload_n dX8_become_134 rfl rfl ?_
            refine V_if_eq 149 dX8_become_135 rfl (fun hc => ?_) (fun hc => ?_)
            · first | exact absurd hc (by decide) | exact absurd (by decide) hc
            · refine V_aload_n dX8_become_138 rfl rfl ?_
              refine V_iload_n dX8_become_139 rfl rfl ?_
              refine V_iload_n dX8_become_140 rfl rfl ?_
              refine V_iconst (v := 1) dX8_become_141 (by decide) ?_
              refine V_iconst (v := (-1)) dX8_become_142 (by decide) ?_
              obtain ⟨c5, s5, hcc5, hss5, h⟩ := h
              refine V_callVa (st := [.int (I20 57 (a1).toNatClampNeg), .ref 51]) [.int a2, .int a1, .int 1, .int (-1)] dX8_become_143 ok_mX8_partOf rfl ml_RX8_221 in_mX8_partOf se_mX8_partOf (hS.n 51 rfl) (hS.k 51 8 rfl) (by decide) rfl (Nat.le_of_ble_eq_true rfl) (by omega) hcc5 hss5 (q_vb80 hS rfl) (q_vb80 hS rfl) (s_mX8_partOf 30 _ _ _ _ _ _ _ _ _ _ hA h) (fun r21 S22 I23 hA9 hE9 h => ?_)
              replace hE9 := hE.tr hE9
              clear hA hE hS
              have hA := hA9
              have hE := hE9
              have hS := hA.1
              refine V_goto 150 dX8_become_146 rfl ?_
              obtain ⟨c6, s6, hcc6, hss6, h⟩ := h
              refine V_callVa (st := []) [.int (I20 57 (a1).toNatClampNeg), .int r21] dX8_become_150 ok_mX8_finished rfl ml_RX8_238 in_mX8_finished se_mX8_finished (hS.n 51 rfl) (hS.k 51 8 rfl) (by decide) rfl (Nat.le_of_ble_eq_true rfl) (by omega) hcc6 hss6 (q_vb80 hS rfl) (q_vb80 hS rfl) (hrec _ _ _ _ _ _ _ _ hA h) (fun r24 S25 I26 hA9 hE9 h => ?_)
              replace hE9 := hE.tr hE9
              clear hA hE hS
              have hA := hA9
              have hE := hE9
              have hS := hA.1
              refine V_istore (lo2 := [(5, .int r24), (4, .int r18), (3, .int 1), (0, .ref 51), (1, .int a1), (2, .int a2)]) dX8_become_153 (by decide) rfl ?_
              refine V_aload_n dX8_become_155 rfl rfl ?_
              refine V_aload_n dX8_become_156 rfl rfl ?_
              refine V_aload_n dX8_become_157 rfl rfl ?_
              refine V_getr dX8_become_158 fl_RX8_19 (hS.n 51 rfl) (hS.k 51 8 rfl) rfl (hS.r 51 6 55 rfl) ?_
              refine V_iload_n dX8_become_161 rfl rfl ?_
              obtain ⟨hb, h⟩ := h
              refine V_iald dX8_become_162 (hS.n 55 rfl) (hS.k 55 9 rfl) (by rw [(hS.z 55 24 rfl)]; exact hb) ?_
              refine V_iload dX8_become_163 rfl ?_
              refine V_iload dX8_become_165 rfl ?_
              refine V_aload_n dX8_become_167 rfl rfl ?_
              refine V_getr dX8_become_168 fl_RX8_28 (hS.n 51 rfl) (hS.k 51 8 rfl) rfl (hS.r 51 9 58 rfl) ?_
              refine V_iload_n dX8_become_171 rfl rfl ?_
              obtain ⟨hb, h⟩ := h
              refine V_iald dX8_become_172 (hS.n 58 rfl) (hS.k 58 9 rfl) (by rw [(hS.z 58 24 rfl)]; exact hb) ?_
              refine V_aload_n dX8_become_173 rfl rfl ?_
              refine V_getr dX8_become_174 fl_RX8_31 (hS.n 51 rfl) (hS.k 51 8 rfl) rfl (hS.r 51 10 59 rfl) ?_
              refine V_iload_n dX8_become_177 rfl rfl ?_
              obtain ⟨hb, h⟩ := h
              refine V_iald dX8_become_178 (hS.n 59 rfl) (hS.k 59 9 rfl) (by rw [(hS.z 59 24 rfl)]; exact hb) ?_
              refine V_aload_n dX8_become_179 rfl rfl ?_
              refine V_getr dX8_become_180 fl_RX8_34 (hS.n 51 rfl) (hS.k 51 8 rfl) rfl (hS.r 51 11 60 rfl) ?_
              refine V_iload_n dX8_become_183 rfl rfl ?_
              obtain ⟨hb, h⟩ := h
              refine V_iald dX8_become_184 (hS.n 60 rfl) (hS.k 60 9 rfl) (by rw [(hS.z 60 24 rfl)]; exact hb) ?_
              refine V_callVi (st := [.ref 51]) [.int (I26 55 (a1).toNatClampNeg), .int r18, .int r24, .int (I26 58 (a1).toNatClampNeg), .int (I26 59 (a1).toNatClampNeg), .int (I26 60 (a1).toNatClampNeg)] dX8_become_185 ok_mX8_place rfl ml_RX8_232 in_mX8_place se_mX8_place (hS.n 51 rfl) (hS.k 51 8 rfl) (by decide) rfl (Nat.le_of_ble_eq_true rfl) (by omega) (by omega) (by omega) (s_mX8_place hS h) (fun r28 I27 J9 h => ?_)
              obtain ⟨rfl, h⟩ := h
              refine V_iload_n dX8_become_188 rfl rfl ?_
              refine V_iload_n dX8_become_189 rfl rfl ?_
              refine V_callVi (st := []) [.int r28, .int a2, .int a1] dX8_become_190 ok_mX8_withChain rfl ml_RX8_235 in_mX8_withChain se_mX8_withChain (hS.n 51 rfl) (hS.k 51 8 rfl) (by decide) rfl (Nat.le_of_ble_eq_true rfl) (by omega) (by omega) (by omega) (s_mX8_withChain hA h) (fun r29 I30 J9 h => ?_)
              obtain ⟨rfl, h⟩ := h
              exact V_iret dX8_become_193 rfl (by omega) (by omega) ⟨_, rfl, rfl, hA, hE, h⟩
          · replace h := h.2 hc
            refine V_iconst (v := (-1)) dX8_become_123 (by decide) ?_
            refine V_goto 153 dX8_become_124 rfl ?_
            refine V_istore (lo2 := [(5, .int (-1)), (4, .int r18), (3, .int 1), (0, .ref 51), (1, .int a1), (2, .int a2)]) dX8_become_153 (by decide) rfl ?_
            refine V_aload_n dX8_become_155 rfl rfl ?_
            refine V_aload_n dX8_become_156 rfl rfl ?_
            refine V_aload_n dX8_become_157 rfl rfl ?_
            refine V_getr dX8_become_158 fl_RX8_19 (hS.n 51 rfl) (hS.k 51 8 rfl) rfl (hS.r 51 6 55 rfl) ?_
            refine V_iload_n dX8_become_161 rfl rfl ?_
            obtain ⟨hb, h⟩ := h
            refine V_iald dX8_become_162 (hS.n 55 rfl) (hS.k 55 9 rfl) (by rw [(hS.z 55 24 rfl)]; exact hb) ?_
            refine V_iload dX8_become_163 rfl ?_
            refine V_iload dX8_become_165 rfl ?_
            refine V_aload_n dX8_become_167 rfl rfl ?_
            refine V_getr dX8_become_168 fl_RX8_28 (hS.n 51 rfl) (hS.k 51 8 rfl) rfl (hS.r 51 9 58 rfl) ?_
            refine V_iload_n dX8_become_171 rfl rfl ?_
            obtain ⟨hb, h⟩ := h
            refine V_iald dX8_become_172 (hS.n 58 rfl) (hS.k 58 9 rfl) (by rw [(hS.z 58 24 rfl)]; exact hb) ?_
            refine V_aload_n dX8_become_173 rfl rfl ?_
            refine V_getr dX8_become_174 fl_RX8_31 (hS.n 51 rfl) (hS.k 51 8 rfl) rfl (hS.r 51 10 59 rfl) ?_
            refine V_iload_n dX8_become_177 rfl rfl ?_
            obtain ⟨hb, h⟩ := h
            refine V_iald dX8_become_178 (hS.n 59 rfl) (hS.k 59 9 rfl) (by rw [(hS.z 59 24 rfl)]; exact hb) ?_
            refine V_aload_n dX8_become_179 rfl rfl ?_
            refine V_getr dX8_become_180 fl_RX8_34 (hS.n 51 rfl) (hS.k 51 8 rfl) rfl (hS.r 51 11 60 rfl) ?_
            refine V_iload_n dX8_become_183 rfl rfl ?_
            obtain ⟨hb, h⟩ := h
            refine V_iald dX8_become_184 (hS.n 60 rfl) (hS.k 60 9 rfl) (by rw [(hS.z 60 24 rfl)]; exact hb) ?_
            refine V_callVi (st := [.ref 51]) [.int (I20 55 (a1).toNatClampNeg), .int r18, .int (-1), .int (I20 58 (a1).toNatClampNeg), .int (I20 59 (a1).toNatClampNeg), .int (I20 60 (a1).toNatClampNeg)] dX8_become_185 ok_mX8_place rfl ml_RX8_232 in_mX8_place se_mX8_place (hS.n 51 rfl) (hS.k 51 8 rfl) (by decide) rfl (Nat.le_of_ble_eq_true rfl) (by omega) (by omega) (by omega) (s_mX8_place hS h) (fun r32 I31 J9 h => ?_)
            obtain ⟨rfl, h⟩ := h
            refine V_iload_n dX8_become_188 rfl rfl ?_
            refine V_iload_n dX8_become_189 rfl rfl ?_
            refine V_callVi (st := []) [.int r32, .int a2, .int a1] dX8_become_190 ok_mX8_withChain rfl ml_RX8_235 in_mX8_withChain se_mX8_withChain (hS.n 51 rfl) (hS.k 51 8 rfl) (by decide) rfl (Nat.le_of_ble_eq_true rfl) (by omega) (by omega) (by omega) (s_mX8_withChain hA h) (fun r33 I34 J9 h => ?_)
            obtain ⟨rfl, h⟩ := h
            exact V_iret dX8_become_193 rfl (by omega) (by omega) ⟨_, rfl, rfl, hA, hE, h⟩
    · replace h := h.2 hc
      refine V_aload_n dX8_become_27 rfl rfl ?_
      refine V_getr dX8_become_28 fl_RX8_28 (hS.n 51 rfl) (hS.k 51 8 rfl) rfl (hS.r 51 9 58 rfl) ?_
      refine V_iload_n dX8_become_31 rfl rfl ?_
      obtain ⟨hb, h⟩ := h
      refine V_iald dX8_become_32 (hS.n 58 rfl) (hS.k 58 9 rfl) (by rw [(hS.z 58 24 rfl)]; exact hb) ?_
      refine V_if_ne 69 dX8_become_33 rfl (fun hc => ?_) (fun hc => ?_)
      · replace h := h.1 hc
        refine V_aload_n dX8_become_69 rfl rfl ?_
        refine V_getr dX8_become_70 fl_RX8_19 (hS.n 51 rfl) (hS.k 51 8 rfl) rfl (hS.r 51 6 55 rfl) ?_
        refine V_iload_n dX8_become_73 rfl rfl ?_
        obtain ⟨hb, h⟩ := h
        refine V_iald dX8_become_74 (hS.n 55 rfl) (hS.k 55 9 rfl) (by rw [(hS.z 55 24 rfl)]; exact hb) ?_
        refine V_iconst (v := 2) dX8_become_75 (by decide) ?_
        refine V_icmp_ne 83 dX8_become_76 rfl (fun hc => ?_) (fun hc => ?_)
        · replace h := h.1 hc
          refine V_iconst (v := 0) dX8_become_83 (by decide) ?_
          refine V_istore_n (lo2 := [(3, .int 0), (0, .ref 51), (1, .int a1), (2, .int a2)]) dX8_become_84 rfl (by decide) rfl ?_
          refine V_aload_n dX8_become_85 rfl rfl ?_
          refine V_aload_n dX8_become_86 rfl rfl ?_
          refine V_getr dX8_become_87 fl_RX8_22 (hS.n 51 rfl) (hS.k 51 8 rfl) rfl (hS.r 51 7 56 rfl) ?_
          refine V_iload_n dX8_become_90 rfl rfl ?_
          obtain ⟨hb, h⟩ := h
          refine V_iald dX8_become_91 (hS.n 56 rfl) (hS.k 56 9 rfl) (by rw [(hS.z 56 24 rfl)]; exact hb) ?_
          refine V_iload_n dX8_become_92 rfl rfl ?_
          refine V_if_eq 107 dX8_become_93 rfl (fun hc => ?_) (fun hc => ?_)
          · refine V_iconst (v := (-1)) dX8_become_107 (by decide) ?_
            obtain ⟨c7, s7, hcc7, hss7, h⟩ := h
            refine V_callVa (st := []) [.int (I 56 (a1).toNatClampNeg), .int (-1)] dX8_become_108 ok_mX8_finished rfl ml_RX8_238 in_mX8_finished se_mX8_finished (hS.n 51 rfl) (hS.k 51 8 rfl) (by decide) rfl (Nat.le_of_ble_eq_true rfl) (by omega) hcc7 hss7 (q_vb80 hS rfl) (q_vb80 hS rfl) (hrec _ _ _ _ _ _ _ _ hA h) (fun r35 S36 I37 hA9 hE9 h => ?_)
            replace hE9 := hE.tr hE9
            clear hA hE hS
            have hA := hA9
            have hE := hE9
            have hS := hA.1
            refine V_istore (lo2 := [(4, .int r35), (3, .int 0), (0, .ref 51), (1, .int a1), (2, .int a2)]) dX8_become_111 (by decide) rfl ?_
            refine V_aload_n dX8_become_113 rfl rfl ?_
            refine V_getr dX8_become_114 fl_RX8_25 (hS.n 51 rfl) (hS.k 51 8 rfl) rfl (hS.r 51 8 57 rfl) ?_
            refine V_iload_n dX8_become_117 rfl rfl ?_
            obtain ⟨hb, h⟩ := h
            refine V_iald dX8_become_118 (hS.n 57 rfl) (hS.k 57 9 rfl) (by rw [(hS.z 57 24 rfl)]; exact hb) ?_
            refine V_iconst (v := (-1)) dX8_become_119 (by decide) ?_
            refine V_icmp_ne 127 dX8_become_120 rfl (fun hc => ?_) (fun hc => ?_)
            · replace h := h.1 hc
              refine V_aload_n dX8_become_127 rfl rfl ?_
              refine V_aload_n dX8_become_128 rfl rfl ?_
              refine V_getr dX8_become_129 fl_RX8_25 (hS.n 51 rfl) (hS.k 51 8 rfl) rfl (hS.r 51 8 57 rfl) ?_
              refine V_iload_n dX8_become_132 rfl rfl ?_
              obtain ⟨hb, h⟩ := h
              refine V_iald dX8_become_133 (hS.n 57 rfl) (hS.k 57 9 rfl) (by rw [(hS.z 57 24 rfl)]; exact hb) ?_
              refine V_iload_n dX8_become_134 rfl rfl ?_
              refine V_if_eq 149 dX8_become_135 rfl (fun hc => ?_) (fun hc => ?_)
              · refine V_iconst (v := (-1)) dX8_become_149 (by decide) ?_
                obtain ⟨c8, s8, hcc8, hss8, h⟩ := h
                refine V_callVa (st := []) [.int (I37 57 (a1).toNatClampNeg), .int (-1)] dX8_become_150 ok_mX8_finished rfl ml_RX8_238 in_mX8_finished se_mX8_finished (hS.n 51 rfl) (hS.k 51 8 rfl) (by decide) rfl (Nat.le_of_ble_eq_true rfl) (by omega) hcc8 hss8 (q_vb80 hS rfl) (q_vb80 hS rfl) (hrec _ _ _ _ _ _ _ _ hA h) (fun r38 S39 I40 hA9 hE9 h => ?_)
                replace hE9 := hE.tr hE9
                clear hA hE hS
                have hA := hA9
                have hE := hE9
                have hS := hA.1
                refine V_istore (lo2 := [(5, .int r38), (4, .int r35), (3, .int 0), (0, .ref 51), (1, .int a1), (2, .int a2)]) dX8_become_153 (by decide) rfl ?_
                refine V_aload_n dX8_become_155 rfl rfl ?_
                refine V_aload_n dX8_become_156 rfl rfl ?_
                refine V_aload_n dX8_become_157 rfl rfl ?_
                refine V_getr dX8_become_158 fl_RX8_19 (hS.n 51 rfl) (hS.k 51 8 rfl) rfl (hS.r 51 6 55 rfl) ?_
                refine V_iload_n dX8_become_161 rfl rfl ?_
                obtain ⟨hb, h⟩ := h
                refine V_iald dX8_become_162 (hS.n 55 rfl) (hS.k 55 9 rfl) (by rw [(hS.z 55 24 rfl)]; exact hb) ?_
                refine V_iload dX8_become_163 rfl ?_
                refine V_iload dX8_become_165 rfl ?_
                refine V_aload_n dX8_become_167 rfl rfl ?_
                refine V_getr dX8_become_168 fl_RX8_28 (hS.n 51 rfl) (hS.k 51 8 rfl) rfl (hS.r 51 9 58 rfl) ?_
                refine V_iload_n dX8_become_171 rfl rfl ?_
                obtain ⟨hb, h⟩ := h
                refine V_iald dX8_become_172 (hS.n 58 rfl) (hS.k 58 9 rfl) (by rw [(hS.z 58 24 rfl)]; exact hb) ?_
                refine V_aload_n dX8_become_173 rfl rfl ?_
                refine V_getr dX8_become_174 fl_RX8_31 (hS.n 51 rfl) (hS.k 51 8 rfl) rfl (hS.r 51 10 59 rfl) ?_
                refine V_iload_n dX8_become_177 rfl rfl ?_
                obtain ⟨hb, h⟩ := h
                refine V_iald dX8_become_178 (hS.n 59 rfl) (hS.k 59 9 rfl) (by rw [(hS.z 59 24 rfl)]; exact hb) ?_
                refine V_aload_n dX8_become_179 rfl rfl ?_
                refine V_getr dX8_become_180 fl_RX8_34 (hS.n 51 rfl) (hS.k 51 8 rfl) rfl (hS.r 51 11 60 rfl) ?_
                refine V_iload_n dX8_become_183 rfl rfl ?_
                obtain ⟨hb, h⟩ := h
                refine V_iald dX8_become_184 (hS.n 60 rfl) (hS.k 60 9 rfl) (by rw [(hS.z 60 24 rfl)]; exact hb) ?_
                refine V_callVi (st := [.ref 51]) [.int (I40 55 (a1).toNatClampNeg), .int r35, .int r38, .int (I40 58 (a1).toNatClampNeg), .int (I40 59 (a1).toNatClampNeg), .int (I40 60 (a1).toNatClampNeg)] dX8_become_185 ok_mX8_place rfl ml_RX8_232 in_mX8_place se_mX8_place (hS.n 51 rfl) (hS.k 51 8 rfl) (by decide) rfl (Nat.le_of_ble_eq_true rfl) (by omega) (by omega) (by omega) (s_mX8_place hS h) (fun r42 I41 J9 h => ?_)
                obtain ⟨rfl, h⟩ := h
                refine V_iload_n dX8_become_188 rfl rfl ?_
                refine V_iload_n dX8_become_189 rfl rfl ?_
                refine V_callVi (st := []) [.int r42, .int a2, .int a1] dX8_become_190 ok_mX8_withChain rfl ml_RX8_235 in_mX8_withChain se_mX8_withChain (hS.n 51 rfl) (hS.k 51 8 rfl) (by decide) rfl (Nat.le_of_ble_eq_true rfl) (by omega) (by omega) (by omega) (s_mX8_withChain hA h) (fun r43 I44 J9 h => ?_)
                obtain ⟨rfl, h⟩ := h
                exact V_iret dX8_become_193 rfl (by omega) (by omega) ⟨_, rfl, rfl, hA, hE, h⟩
              · first | exact absurd hc (by decide) | exact absurd (by decide) hc
            · replace h := h.2 hc
              refine V_iconst (v := (-1)) dX8_become_123 (by decide) ?_
              refine V_goto 153 dX8_become_124 rfl ?_
              refine V_istore (lo2 := [(5, .int (-1)), (4, .int r35), (3, .int 0), (0, .ref 51), (1, .int a1), (2, .int a2)]) dX8_become_153 (by decide) rfl ?_
              refine V_aload_n dX8_become_155 rfl rfl ?_
              refine V_aload_n dX8_become_156 rfl rfl ?_
              refine V_aload_n dX8_become_157 rfl rfl ?_
              refine V_getr dX8_become_158 fl_RX8_19 (hS.n 51 rfl) (hS.k 51 8 rfl) rfl (hS.r 51 6 55 rfl) ?_
              refine V_iload_n dX8_become_161 rfl rfl ?_
              obtain ⟨hb, h⟩ := h
              refine V_iald dX8_become_162 (hS.n 55 rfl) (hS.k 55 9 rfl) (by rw [(hS.z 55 24 rfl)]; exact hb) ?_
              refine V_iload dX8_become_163 rfl ?_
              refine V_iload dX8_become_165 rfl ?_
              refine V_aload_n dX8_become_167 rfl rfl ?_
              refine V_getr dX8_become_168 fl_RX8_28 (hS.n 51 rfl) (hS.k 51 8 rfl) rfl (hS.r 51 9 58 rfl) ?_
              refine V_iload_n dX8_become_171 rfl rfl ?_
              obtain ⟨hb, h⟩ := h
              refine V_iald dX8_become_172 (hS.n 58 rfl) (hS.k 58 9 rfl) (by rw [(hS.z 58 24 rfl)]; exact hb) ?_
              refine V_aload_n dX8_become_173 rfl rfl ?_
              refine V_getr dX8_become_174 fl_RX8_31 (hS.n 51 rfl) (hS.k 51 8 rfl) rfl (hS.r 51 10 59 rfl) ?_
              refine V_iload_n dX8_become_177 rfl rfl ?_
              obtain ⟨hb, h⟩ := h
              refine V_iald dX8_become_178 (hS.n 59 rfl) (hS.k 59 9 rfl) (by rw [(hS.z 59 24 rfl)]; exact hb) ?_
              refine V_aload_n dX8_become_179 rfl rfl ?_
              refine V_getr dX8_become_180 fl_RX8_34 (hS.n 51 rfl) (hS.k 51 8 rfl) rfl (hS.r 51 11 60 rfl) ?_
              refine V_iload_n dX8_become_183 rfl rfl ?_
              obtain ⟨hb, h⟩ := h
              refine V_iald dX8_become_184 (hS.n 60 rfl) (hS.k 60 9 rfl) (by rw [(hS.z 60 24 rfl)]; exact hb) ?_
              refine V_callVi (st := [.ref 51]) [.int (I37 55 (a1).toNatClampNeg), .int r35, .int (-1), .int (I37 58 (a1).toNatClampNeg), .int (I37 59 (a1).toNatClampNeg), .int (I37 60 (a1).toNatClampNeg)] dX8_become_185 ok_mX8_place rfl ml_RX8_232 in_mX8_place se_mX8_place (hS.n 51 rfl) (hS.k 51 8 rfl) (by decide) rfl (Nat.le_of_ble_eq_true rfl) (by omega) (by omega) (by omega) (s_mX8_place hS h) (fun r46 I45 J9 h => ?_)
              obtain ⟨rfl, h⟩ := h
              refine V_iload_n dX8_become_188 rfl rfl ?_
              refine V_iload_n dX8_become_189 rfl rfl ?_
              refine V_callVi (st := []) [.int r46, .int a2, .int a1] dX8_become_190 ok_mX8_withChain rfl ml_RX8_235 in_mX8_withChain se_mX8_withChain (hS.n 51 rfl) (hS.k 51 8 rfl) (by decide) rfl (Nat.le_of_ble_eq_true rfl) (by omega) (by omega) (by omega) (s_mX8_withChain hA h) (fun r47 I48 J9 h => ?_)
              obtain ⟨rfl, h⟩ := h
              exact V_iret dX8_become_193 rfl (by omega) (by omega) ⟨_, rfl, rfl, hA, hE, h⟩
          · first | exact absurd hc (by decide) | exact absurd (by decide) hc
        · replace h := h.2 hc
          refine V_iconst (v := 1) dX8_become_79 (by decide) ?_
          refine V_goto 84 dX8_become_80 rfl ?_
          refine V_istore_n (lo2 := [(3, .int 1), (0, .ref 51), (1, .int a1), (2, .int a2)]) dX8_become_84 rfl (by decide) rfl ?_
          refine V_aload_n dX8_become_85 rfl rfl ?_
          refine V_aload_n dX8_become_86 rfl rfl ?_
          refine V_getr dX8_become_87 fl_RX8_22 (hS.n 51 rfl) (hS.k 51 8 rfl) rfl (hS.r 51 7 56 rfl) ?_
          refine V_iload_n dX8_become_90 rfl rfl ?_
          obtain ⟨hb, h⟩ := h
          refine V_iald dX8_become_91 (hS.n 56 rfl) (hS.k 56 9 rfl) (by rw [(hS.z 56 24 rfl)]; exact hb) ?_
          refine V_iload_n dX8_become_92 rfl rfl ?_
          refine V_if_eq 107 dX8_become_93 rfl (fun hc => ?_) (fun hc => ?_)
          · first | exact absurd hc (by decide) | exact absurd (by decide) hc
          · refine V_aload_n dX8_become_96 rfl rfl ?_
            refine V_iload_n dX8_become_97 rfl rfl ?_
            refine V_iload_n dX8_become_98 rfl rfl ?_
            refine V_iconst (v := 0) dX8_become_99 (by decide) ?_
            refine V_iconst (v := (-1)) dX8_become_100 (by decide) ?_
            obtain ⟨c9, s9, hcc9, hss9, h⟩ := h
            refine V_callVa (st := [.int (I 56 (a1).toNatClampNeg), .ref 51]) [.int a2, .int a1, .int 0, .int (-1)] dX8_become_101 ok_mX8_partOf rfl ml_RX8_221 in_mX8_partOf se_mX8_partOf (hS.n 51 rfl) (hS.k 51 8 rfl) (by decide) rfl (Nat.le_of_ble_eq_true rfl) (by omega) hcc9 hss9 (q_vb80 hS rfl) (q_vb80 hS rfl) (s_mX8_partOf 30 _ _ _ _ _ _ _ _ _ _ hA h) (fun r49 S50 I51 hA9 hE9 h => ?_)
            replace hE9 := hE.tr hE9
            clear hA hE hS
            have hA := hA9
            have hE := hE9
            have hS := hA.1
            refine V_goto 108 dX8_become_104 rfl ?_
            obtain ⟨c10, s10, hcc10, hss10, h⟩ := h
            refine V_callVa (st := []) [.int (I 56 (a1).toNatClampNeg), .int r49] dX8_become_108 ok_mX8_finished rfl ml_RX8_238 in_mX8_finished se_mX8_finished (hS.n 51 rfl) (hS.k 51 8 rfl) (by decide) rfl (Nat.le_of_ble_eq_true rfl) (by omega) hcc10 hss10 (q_vb80 hS rfl) (q_vb80 hS rfl) (hrec _ _ _ _ _ _ _ _ hA h) (fun r52 S53 I54 hA9 hE9 h => ?_)
            replace hE9 := hE.tr hE9
            clear hA hE hS
            have hA := hA9
            have hE := hE9
            have hS := hA.1
            refine V_istore (lo2 := [(4, .int r52), (3, .int 1), (0, .ref 51), (1, .int a1), (2, .int a2)]) dX8_become_111 (by decide) rfl ?_
            refine V_aload_n dX8_become_113 rfl rfl ?_
            refine V_getr dX8_become_114 fl_RX8_25 (hS.n 51 rfl) (hS.k 51 8 rfl) rfl (hS.r 51 8 57 rfl) ?_
            refine V_iload_n dX8_become_117 rfl rfl ?_
            obtain ⟨hb, h⟩ := h
            refine V_iald dX8_become_118 (hS.n 57 rfl) (hS.k 57 9 rfl) (by rw [(hS.z 57 24 rfl)]; exact hb) ?_
            refine V_iconst (v := (-1)) dX8_become_119 (by decide) ?_
            refine V_icmp_ne 127 dX8_become_120 rfl (fun hc => ?_) (fun hc => ?_)
            · replace h := h.1 hc
              refine V_aload_n dX8_become_127 rfl rfl ?_
              refine V_aload_n dX8_become_128 rfl rfl ?_
              refine V_getr dX8_become_129 fl_RX8_25 (hS.n 51 rfl) (hS.k 51 8 rfl) rfl (hS.r 51 8 57 rfl) ?_
              refine V_iload_n dX8_become_132 rfl rfl ?_
              obtain ⟨hb, h⟩ := h
              refine V_iald dX8_become_133 (hS.n 57 rfl) (hS.k 57 9 rfl) (by rw [(hS.z 57 24 rfl)]; exact hb) ?_
              refine V_iload_n dX8_become_134 rfl rfl ?_
              refine V_if_eq 149 dX8_become_135 rfl (fun hc => ?_) (fun hc => ?_)
              · first | exact absurd hc (by decide) | exact absurd (by decide) hc
              · refine V_aload_n dX8_become_138 rfl rfl ?_
                refine V_iload_n dX8_become_139 rfl rfl ?_
                refine V_iload_n dX8_become_140 rfl rfl ?_
                refine V_iconst (v := 1) dX8_become_141 (by decide) ?_
                refine V_iconst (v := (-1)) dX8_become_142 (by decide) ?_
                obtain ⟨c11, s11, hcc11, hss11, h⟩ := h
                refine V_callVa (st := [.int (I54 57 (a1).toNatClampNeg), .ref 51]) [.int a2, .int a1, .int 1, .int (-1)] dX8_become_143 ok_mX8_partOf rfl ml_RX8_221 in_mX8_partOf se_mX8_partOf (hS.n 51 rfl) (hS.k 51 8 rfl) (by decide) rfl (Nat.le_of_ble_eq_true rfl) (by omega) hcc11 hss11 (q_vb80 hS rfl) (q_vb80 hS rfl) (s_mX8_partOf 30 _ _ _ _ _ _ _ _ _ _ hA h) (fun r55 S56 I57 hA9 hE9 h => ?_)
                replace hE9 := hE.tr hE9
                clear hA hE hS
                have hA := hA9
                have hE := hE9
                have hS := hA.1
                refine V_goto 150 dX8_become_146 rfl ?_
                obtain ⟨c12, s12, hcc12, hss12, h⟩ := h
                refine V_callVa (st := []) [.int (I54 57 (a1).toNatClampNeg), .int r55] dX8_become_150 ok_mX8_finished rfl ml_RX8_238 in_mX8_finished se_mX8_finished (hS.n 51 rfl) (hS.k 51 8 rfl) (by decide) rfl (Nat.le_of_ble_eq_true rfl) (by omega) hcc12 hss12 (q_vb80 hS rfl) (q_vb80 hS rfl) (hrec _ _ _ _ _ _ _ _ hA h) (fun r58 S59 I60 hA9 hE9 h => ?_)
                replace hE9 := hE.tr hE9
                clear hA hE hS
                have hA := hA9
                have hE := hE9
                have hS := hA.1
                refine V_istore (lo2 := [(5, .int r58), (4, .int r52), (3, .int 1), (0, .ref 51), (1, .int a1), (2, .int a2)]) dX8_become_153 (by decide) rfl ?_
                refine V_aload_n dX8_become_155 rfl rfl ?_
                refine V_aload_n dX8_become_156 rfl rfl ?_
                refine V_aload_n dX8_become_157 rfl rfl ?_
                refine V_getr dX8_become_158 fl_RX8_19 (hS.n 51 rfl) (hS.k 51 8 rfl) rfl (hS.r 51 6 55 rfl) ?_
                refine V_iload_n dX8_become_161 rfl rfl ?_
                obtain ⟨hb, h⟩ := h
                refine V_iald dX8_become_162 (hS.n 55 rfl) (hS.k 55 9 rfl) (by rw [(hS.z 55 24 rfl)]; exact hb) ?_
                refine V_iload dX8_become_163 rfl ?_
                refine V_iload dX8_become_165 rfl ?_
                refine V_aload_n dX8_become_167 rfl rfl ?_
                refine V_getr dX8_become_168 fl_RX8_28 (hS.n 51 rfl) (hS.k 51 8 rfl) rfl (hS.r 51 9 58 rfl) ?_
                refine V_iload_n dX8_become_171 rfl rfl ?_
                obtain ⟨hb, h⟩ := h
                refine V_iald dX8_become_172 (hS.n 58 rfl) (hS.k 58 9 rfl) (by rw [(hS.z 58 24 rfl)]; exact hb) ?_
                refine V_aload_n dX8_become_173 rfl rfl ?_
                refine V_getr dX8_become_174 fl_RX8_31 (hS.n 51 rfl) (hS.k 51 8 rfl) rfl (hS.r 51 10 59 rfl) ?_
                refine V_iload_n dX8_become_177 rfl rfl ?_
                obtain ⟨hb, h⟩ := h
                refine V_iald dX8_become_178 (hS.n 59 rfl) (hS.k 59 9 rfl) (by rw [(hS.z 59 24 rfl)]; exact hb) ?_
                refine V_aload_n dX8_become_179 rfl rfl ?_
                refine V_getr dX8_become_180 fl_RX8_34 (hS.n 51 rfl) (hS.k 51 8 rfl) rfl (hS.r 51 11 60 rfl) ?_
                refine V_iload_n dX8_become_183 rfl rfl ?_
                obtain ⟨hb, h⟩ := h
                refine V_iald dX8_become_184 (hS.n 60 rfl) (hS.k 60 9 rfl) (by rw [(hS.z 60 24 rfl)]; exact hb) ?_
                refine V_callVi (st := [.ref 51]) [.int (I60 55 (a1).toNatClampNeg), .int r52, .int r58, .int (I60 58 (a1).toNatClampNeg), .int (I60 59 (a1).toNatClampNeg), .int (I60 60 (a1).toNatClampNeg)] dX8_become_185 ok_mX8_place rfl ml_RX8_232 in_mX8_place se_mX8_place (hS.n 51 rfl) (hS.k 51 8 rfl) (by decide) rfl (Nat.le_of_ble_eq_true rfl) (by omega) (by omega) (by omega) (s_mX8_place hS h) (fun r62 I61 J9 h => ?_)
                obtain ⟨rfl, h⟩ := h
                refine V_iload_n dX8_become_188 rfl rfl ?_
                refine V_iload_n dX8_become_189 rfl rfl ?_
                refine V_callVi (st := []) [.int r62, .int a2, .int a1] dX8_become_190 ok_mX8_withChain rfl ml_RX8_235 in_mX8_withChain se_mX8_withChain (hS.n 51 rfl) (hS.k 51 8 rfl) (by decide) rfl (Nat.le_of_ble_eq_true rfl) (by omega) (by omega) (by omega) (s_mX8_withChain hA h) (fun r63 I64 J9 h => ?_)
                obtain ⟨rfl, h⟩ := h
                exact V_iret dX8_become_193 rfl (by omega) (by omega) ⟨_, rfl, rfl, hA, hE, h⟩
            · replace h := h.2 hc
              refine V_iconst (v := (-1)) dX8_become_123 (by decide) ?_
              refine V_goto 153 dX8_become_124 rfl ?_
              refine V_istore (lo2 := [(5, .int (-1)), (4, .int r52), (3, .int 1), (0, .ref 51), (1, .int a1), (2, .int a2)]) dX8_become_153 (by decide) rfl ?_
              refine V_aload_n dX8_become_155 rfl rfl ?_
              refine V_aload_n dX8_become_156 rfl rfl ?_
              refine V_aload_n dX8_become_157 rfl rfl ?_
              refine V_getr dX8_become_158 fl_RX8_19 (hS.n 51 rfl) (hS.k 51 8 rfl) rfl (hS.r 51 6 55 rfl) ?_
              refine V_iload_n dX8_become_161 rfl rfl ?_
              obtain ⟨hb, h⟩ := h
              refine V_iald dX8_become_162 (hS.n 55 rfl) (hS.k 55 9 rfl) (by rw [(hS.z 55 24 rfl)]; exact hb) ?_
              refine V_iload dX8_become_163 rfl ?_
              refine V_iload dX8_become_165 rfl ?_
              refine V_aload_n dX8_become_167 rfl rfl ?_
              refine V_getr dX8_become_168 fl_RX8_28 (hS.n 51 rfl) (hS.k 51 8 rfl) rfl (hS.r 51 9 58 rfl) ?_
              refine V_iload_n dX8_become_171 rfl rfl ?_
              obtain ⟨hb, h⟩ := h
              refine V_iald dX8_become_172 (hS.n 58 rfl) (hS.k 58 9 rfl) (by rw [(hS.z 58 24 rfl)]; exact hb) ?_
              refine V_aload_n dX8_become_173 rfl rfl ?_
              refine V_getr dX8_become_174 fl_RX8_31 (hS.n 51 rfl) (hS.k 51 8 rfl) rfl (hS.r 51 10 59 rfl) ?_
              refine V_iload_n dX8_become_177 rfl rfl ?_
              obtain ⟨hb, h⟩ := h
              refine V_iald dX8_become_178 (hS.n 59 rfl) (hS.k 59 9 rfl) (by rw [(hS.z 59 24 rfl)]; exact hb) ?_
              refine V_aload_n dX8_become_179 rfl rfl ?_
              refine V_getr dX8_become_180 fl_RX8_34 (hS.n 51 rfl) (hS.k 51 8 rfl) rfl (hS.r 51 11 60 rfl) ?_
              refine V_iload_n dX8_become_183 rfl rfl ?_
              obtain ⟨hb, h⟩ := h
              refine V_iald dX8_become_184 (hS.n 60 rfl) (hS.k 60 9 rfl) (by rw [(hS.z 60 24 rfl)]; exact hb) ?_
              refine V_callVi (st := [.ref 51]) [.int (I54 55 (a1).toNatClampNeg), .int r52, .int (-1), .int (I54 58 (a1).toNatClampNeg), .int (I54 59 (a1).toNatClampNeg), .int (I54 60 (a1).toNatClampNeg)] dX8_become_185 ok_mX8_place rfl ml_RX8_232 in_mX8_place se_mX8_place (hS.n 51 rfl) (hS.k 51 8 rfl) (by decide) rfl (Nat.le_of_ble_eq_true rfl) (by omega) (by omega) (by omega) (s_mX8_place hS h) (fun r66 I65 J9 h => ?_)
              obtain ⟨rfl, h⟩ := h
              refine V_iload_n dX8_become_188 rfl rfl ?_
              refine V_iload_n dX8_become_189 rfl rfl ?_
              refine V_callVi (st := []) [.int r66, .int a2, .int a1] dX8_become_190 ok_mX8_withChain rfl ml_RX8_235 in_mX8_withChain se_mX8_withChain (hS.n 51 rfl) (hS.k 51 8 rfl) (by decide) rfl (Nat.le_of_ble_eq_true rfl) (by omega) (by omega) (by omega) (s_mX8_withChain hA h) (fun r67 I68 J9 h => ?_)
              obtain ⟨rfl, h⟩ := h
              exact V_iret dX8_become_193 rfl (by omega) (by omega) ⟨_, rfl, rfl, hA, hE, h⟩
      · replace h := h.2 hc
        refine V_aload_n dX8_become_36 rfl rfl ?_
        refine V_aload_n dX8_become_37 rfl rfl ?_
        refine V_getr dX8_become_38 fl_RX8_22 (hS.n 51 rfl) (hS.k 51 8 rfl) rfl (hS.r 51 7 56 rfl) ?_
        refine V_iload_n dX8_become_41 rfl rfl ?_
        obtain ⟨hb, h⟩ := h
        refine V_iald dX8_become_42 (hS.n 56 rfl) (hS.k 56 9 rfl) (by rw [(hS.z 56 24 rfl)]; exact hb) ?_
        refine V_iload_n dX8_become_43 rfl rfl ?_
        obtain ⟨c13, s13, hcc13, hss13, h⟩ := h
        refine V_callVa (st := []) [.int (I 56 (a1).toNatClampNeg), .int a2] dX8_become_44 ok_mX8_finished rfl ml_RX8_238 in_mX8_finished se_mX8_finished (hS.n 51 rfl) (hS.k 51 8 rfl) (by decide) rfl (Nat.le_of_ble_eq_true rfl) (by omega) hcc13 hss13 (q_vb80 hS rfl) (q_vb80 hS rfl) (hrec _ _ _ _ _ _ _ _ hA h) (fun r69 S70 I71 hA9 hE9 h => ?_)
        replace hE9 := hE.tr hE9
        clear hA hE hS
        have hA := hA9
        have hE := hE9
        have hS := hA.1
        refine V_istore_n (lo2 := [(3, .int r69), (0, .ref 51), (1, .int a1), (2, .int a2)]) dX8_become_47 rfl (by decide) rfl ?_
        refine V_aload_n dX8_become_48 rfl rfl ?_
        refine V_iconst (v := 4) dX8_become_49 (by decide) ?_
        refine V_iload_n dX8_become_50 rfl rfl ?_
        refine V_aload_n dX8_become_51 rfl rfl ?_
        refine V_aload_n dX8_become_52 rfl rfl ?_
        refine V_getr dX8_become_53 fl_RX8_25 (hS.n 51 rfl) (hS.k 51 8 rfl) rfl (hS.r 51 8 57 rfl) ?_
        refine V_iload_n dX8_become_56 rfl rfl ?_
        obtain ⟨hb, h⟩ := h
        refine V_iald dX8_become_57 (hS.n 57 rfl) (hS.k 57 9 rfl) (by rw [(hS.z 57 24 rfl)]; exact hb) ?_
        refine V_iload_n dX8_become_58 rfl rfl ?_
        obtain ⟨c14, s14, hcc14, hss14, h⟩ := h
        refine V_callVa (st := [.int r69, .int 4, .ref 51]) [.int (I71 57 (a1).toNatClampNeg), .int a2] dX8_become_59 ok_mX8_finished rfl ml_RX8_238 in_mX8_finished se_mX8_finished (hS.n 51 rfl) (hS.k 51 8 rfl) (by decide) rfl (Nat.le_of_ble_eq_true rfl) (by omega) hcc14 hss14 (q_vb80 hS rfl) (q_vb80 hS rfl) (hrec _ _ _ _ _ _ _ _ hA h) (fun r72 S73 I74 hA9 hE9 h => ?_)
        replace hE9 := hE.tr hE9
        clear hA hE hS
        have hA := hA9
        have hE := hE9
        have hS := hA.1
        refine V_iconst (v := 0) dX8_become_62 (by decide) ?_
        refine V_iconst (v := 0) dX8_become_63 (by decide) ?_
        refine V_iconst (v := 0) dX8_become_64 (by decide) ?_
        refine V_callVi (st := []) [.int 4, .int r69, .int r72, .int 0, .int 0, .int 0] dX8_become_65 ok_mX8_place rfl ml_RX8_232 in_mX8_place se_mX8_place (hS.n 51 rfl) (hS.k 51 8 rfl) (by decide) rfl (Nat.le_of_ble_eq_true rfl) (by omega) (by omega) (by omega) (s_mX8_place hS h) (fun r76 I75 J9 h => ?_)
        obtain ⟨rfl, h⟩ := h
        exact V_iret dX8_become_68 rfl (by omega) (by omega) ⟨_, rfl, rfl, hA, hE, h⟩
  · replace h := h.2 hc
    refine V_aload_n dX8_become_9 rfl rfl ?_
    refine V_iload_n dX8_become_10 rfl rfl ?_
    refine V_iload_n dX8_become_11 rfl rfl ?_
    refine V_iload_n dX8_become_12 rfl rfl ?_
    refine V_callVi (st := []) [.int a1, .int a2, .int a1] dX8_become_13 ok_mX8_withChain rfl ml_RX8_235 in_mX8_withChain se_mX8_withChain (hS.n 51 rfl) (hS.k 51 8 rfl) (by decide) rfl (Nat.le_of_ble_eq_true rfl) (by omega) (by omega) (by omega) (s_mX8_withChain hA h) (fun r77 I78 J9 h => ?_)
    obtain ⟨rfl, h⟩ := h
    exact V_iret dX8_become_16 rfl (by omega) (by omega) ⟨_, rfl, rfl, hA, hE, h⟩
def wX8_finished_68 (S : QS) (a1 : Int32) (a2 : Int32) (K109 : QI → Prop) (post : Int32 → QS → QI → Prop) : Nat → Int32 → QI → Prop
  | 0, _, _ => False
  | n + 1, x3, I => (((I 51 27) ≤ x3 → (K109 I)) ∧ (¬ (I 51 27) ≤ x3 → (∀ p1 : Nat, S.2.2.2.2 51 28 = some p1 → (vp_in x3 (S.2.2.2.1 p1) ∧ ((¬ (I p1 (x3).toNatClampNeg) = a1 → (∀ v2 : Int32, v2 = (x3 + 1) → (wX8_finished_68 S a1 a2 K109 post n v2 I))) ∧ ((I p1 (x3).toNatClampNeg) = a1 → (∀ p3 : Nat, S.2.2.2.2 51 29 = some p3 → (vp_in x3 (S.2.2.2.1 p3) ∧ ((¬ (I p3 (x3).toNatClampNeg) = a2 → (∀ v4 : Int32, v4 = (x3 + 1) → (wX8_finished_68 S a1 a2 K109 post n v4 I))) ∧ ((I p3 (x3).toNatClampNeg) = a2 → (∀ p5 : Nat, S.2.2.2.2 51 30 = some p5 → (vp_in x3 (S.2.2.2.1 p5) ∧ post (I p5 (x3).toNatClampNeg) S I))))))))))))
set_option maxRecDepth 100000 in
set_option maxHeartbeats 4000000 in
theorem swX8_finished_68 {X : QX} {S : QS} {a1 : Int32} {a2 : Int32} {J : QJ} {K109 : QI → Prop} {post : Int32 → QS → QI → Prop} {c s D : Nat} (hD : 8 ≤ D) (hA : Sa S) (hK109 : ∀ (I : QI), K109 I → V X mX8_finished (D + 2) c s (q_Pa S J post) 109 [(0, .ref 51), (1, .int a1), (2, .int a2)] [] S I J 0 0) : ∀ (f : Nat) (x3 : Int32) (I : QI), wX8_finished_68 S a1 a2 K109 post f x3 I → V X mX8_finished (D + 2) c s (q_Pa S J post) 68 [(0, .ref 51), (1, .int a1), (2, .int a2), (3, .int x3)] [] S I J 0 0 := by
  have hS := hA.1
  have hE : Ex S S := Ex.rf
  intro f
  induction f with
  | zero => intro x3 I h; exact h.elim
  | succ n ih =>
    intro x3 I h
    replace h : (((I 51 27) ≤ x3 → (K109 I)) ∧ (¬ (I 51 27) ≤ x3 → (∀ p1 : Nat, S.2.2.2.2 51 28 = some p1 → (vp_in x3 (S.2.2.2.1 p1) ∧ ((¬ (I p1 (x3).toNatClampNeg) = a1 → (∀ v2 : Int32, v2 = (x3 + 1) → (wX8_finished_68 S a1 a2 K109 post n v2 I))) ∧ ((I p1 (x3).toNatClampNeg) = a1 → (∀ p3 : Nat, S.2.2.2.2 51 29 = some p3 → (vp_in x3 (S.2.2.2.1 p3) ∧ ((¬ (I p3 (x3).toNatClampNeg) = a2 → (∀ v4 : Int32, v4 = (x3 + 1) → (wX8_finished_68 S a1 a2 K109 post n v4 I))) ∧ ((I p3 (x3).toNatClampNeg) = a2 → (∀ p5 : Nat, S.2.2.2.2 51 30 = some p5 → (vp_in x3 (S.2.2.2.1 p5) ∧ post (I p5 (x3).toNatClampNeg) S I)))))))))))) := h
    refine V_iload_n dX8_finished_68 rfl rfl ?_
    refine V_aload_n dX8_finished_69 rfl rfl ?_
    refine V_geti dX8_finished_70 fl_RX8_241 (hS.n 51 rfl) (hS.k 51 8 rfl) rfl ?_
    refine V_icmp_ge 109 dX8_finished_73 rfl (fun hc => ?_) (fun hc => ?_)
    · replace h := h.1 hc
      refine V_sub (lo2 := [(0, .ref 51), (1, .int a1), (2, .int a2)]) [0, 1, 2] rfl ?_
      exact hK109 _ h
    · replace h := h.2 hc
      refine V_aload_n dX8_finished_76 rfl rfl ?_
      obtain ⟨p1, ep1, h7p1, hNp1, hKp1⟩ := hA.2.2.1 28 (by decide)
      refine V_getr dX8_finished_77 fl_RX8_77 (hS.n 51 rfl) (hS.k 51 8 rfl) rfl ep1 ?_
      replace h := h p1 ep1
      refine V_iload_n dX8_finished_80 rfl rfl ?_
      obtain ⟨hb, h⟩ := h
      refine V_iald dX8_finished_81 hNp1 hKp1 hb ?_
      refine V_iload_n dX8_finished_82 rfl rfl ?_
      refine V_icmp_ne 103 dX8_finished_83 rfl (fun hc => ?_) (fun hc => ?_)
      · replace h := h.1 hc
        obtain ⟨v2, e_v2⟩ : ∃ z : Int32, z = (x3 + 1) := ⟨_, rfl⟩
        replace h := h v2 e_v2
        refine V_iinc (lo2 := [(3, .int v2), (0, .ref 51), (1, .int a1), (2, .int a2)]) 3 dX8_finished_103 rfl (v := v2) (by rw [e_v2]; first | done | rfl) (by decide) rfl ?_
        refine V_goto 68 dX8_finished_106 rfl ?_
        refine V_sub (lo2 := [(0, .ref 51), (1, .int a1), (2, .int a2), (3, .int v2)]) [1, 2, 3, 0] rfl ?_
        exact ih _ _ h
      · replace h := h.2 hc
        refine V_aload_n dX8_finished_86 rfl rfl ?_
        obtain ⟨p3, ep3, h7p3, hNp3, hKp3⟩ := hA.2.2.1 29 (by decide)
        refine V_getr dX8_finished_87 fl_RX8_80 (hS.n 51 rfl) (hS.k 51 8 rfl) rfl ep3 ?_
        replace h := h p3 ep3
        refine V_iload_n dX8_finished_90 rfl rfl ?_
        obtain ⟨hb, h⟩ := h
        refine V_iald dX8_finished_91 hNp3 hKp3 hb ?_
        refine V_iload_n dX8_finished_92 rfl rfl ?_
        refine V_icmp_ne 103 dX8_finished_93 rfl (fun hc => ?_) (fun hc => ?_)
        · replace h := h.1 hc
          obtain ⟨v4, e_v4⟩ : ∃ z : Int32, z = (x3 + 1) := ⟨_, rfl⟩
          replace h := h v4 e_v4
          refine V_iinc (lo2 := [(3, .int v4), (0, .ref 51), (1, .int a1), (2, .int a2)]) 3 dX8_finished_103 rfl (v := v4) (by rw [e_v4]; first | done | rfl) (by decide) rfl ?_
          refine V_goto 68 dX8_finished_106 rfl ?_
          refine V_sub (lo2 := [(0, .ref 51), (1, .int a1), (2, .int a2), (3, .int v4)]) [1, 2, 3, 0] rfl ?_
          exact ih _ _ h
        · replace h := h.2 hc
          refine V_aload_n dX8_finished_96 rfl rfl ?_
          obtain ⟨p5, ep5, h7p5, hNp5, hKp5⟩ := hA.2.2.1 30 (by decide)
          refine V_getr dX8_finished_97 fl_RX8_83 (hS.n 51 rfl) (hS.k 51 8 rfl) rfl ep5 ?_
          replace h := h p5 ep5
          refine V_iload_n dX8_finished_100 rfl rfl ?_
          obtain ⟨hb, h⟩ := h
          refine V_iald dX8_finished_101 hNp5 hKp5 hb ?_
          exact V_iret dX8_finished_102 rfl (by omega) (by omega) ⟨_, rfl, rfl, hA, hE, h⟩
def wX8_finished : Nat → Int32 → Int32 → QS → QI → Nat → Nat → (Int32 → QS → QI → Prop) → Prop
  | 0, _, _, _, _, _, _, _ => False
  | n + 1, a1, a2, S, I, c, s, post => (((I 51 32) = 0 → (vp_in a1 24 ∧ ((¬ (I 55 (a1).toNatClampNeg) = 1 → (∃ f : Nat, wX8_finished_68 S a1 a2 (fun I6 => (∃ c1 s1 : Nat, (0) + c1 ≤ c ∧ (0) + s1 ≤ s ∧ wX8_become (wX8_finished n) a1 a2 S I6 c1 s1 (fun r7 S8 I9 => (∀ p10 : Nat, S8.2.2.2.2 51 28 = some p10 → ((¬ (I9 51 27) = (Int32.ofNat (S8.2.2.2.1 p10)) → (∀ p11 : Nat, S8.2.2.2.2 51 28 = some p11 → (vp_in (I9 51 27) (S8.2.2.2.1 p11) ∧ (∀ I12 : QI, I12 = q_u2 I9 p11 ((I9 51 27)).toNatClampNeg a1 → (∀ p13 : Nat, S8.2.2.2.2 51 29 = some p13 → (vp_in (I12 51 27) (S8.2.2.2.1 p13) ∧ (∀ I14 : QI, I14 = q_u2 I12 p13 ((I12 51 27)).toNatClampNeg a2 → (∀ p15 : Nat, S8.2.2.2.2 51 30 = some p15 → (vp_in (I14 51 27) (S8.2.2.2.1 p15) ∧ (∀ I16 : QI, I16 = q_u2 I14 p15 ((I14 51 27)).toNatClampNeg r7 → (∀ I17 : QI, I17 = q_u2 I16 51 27 ((I16 51 27) + 1) → post r7 S8 I17))))))))))) ∧ ((I9 51 27) = (Int32.ofNat (S8.2.2.2.1 p10)) → (∀ p18 : Nat, S8.2.2.2.2 51 28 = some p18 → (∃ c2 s2 : Nat, (0 + c1) + c2 ≤ c ∧ (0 + s1) + s2 ≤ s ∧ wX8_longer p18 S8 I9 c2 s2 (fun p19 S20 I21 => (∀ S23 : QS, S23 = q_sR S20 (q_u2 S20.2.2.2.2 51 28 (some p19)) → (∀ p24 : Nat, S23.2.2.2.2 51 29 = some p24 → (∃ c3 s3 : Nat, (0 + c1 + c2) + c3 ≤ c ∧ (0 + s1 + s2) + s3 ≤ s ∧ wX8_longer p24 S23 I21 c3 s3 (fun p25 S26 I27 => (∀ S29 : QS, S29 = q_sR S26 (q_u2 S26.2.2.2.2 51 29 (some p25)) → (∀ p30 : Nat, S29.2.2.2.2 51 30 = some p30 → (∃ c4 s4 : Nat, (0 + c1 + c2 + c3) + c4 ≤ c ∧ (0 + s1 + s2 + s3) + s4 ≤ s ∧ wX8_longer p30 S29 I27 c4 s4 (fun p31 S32 I33 => (∀ S35 : QS, S35 = q_sR S32 (q_u2 S32.2.2.2.2 51 30 (some p31)) → (∀ p36 : Nat, S35.2.2.2.2 51 28 = some p36 → (vp_in (I33 51 27) (S35.2.2.2.1 p36) ∧ (∀ I37 : QI, I37 = q_u2 I33 p36 ((I33 51 27)).toNatClampNeg a1 → (∀ p38 : Nat, S35.2.2.2.2 51 29 = some p38 → (vp_in (I37 51 27) (S35.2.2.2.1 p38) ∧ (∀ I39 : QI, I39 = q_u2 I37 p38 ((I37 51 27)).toNatClampNeg a2 → (∀ p40 : Nat, S35.2.2.2.2 51 30 = some p40 → (vp_in (I39 51 27) (S35.2.2.2.1 p40) ∧ (∀ I41 : QI, I41 = q_u2 I39 p40 ((I39 51 27)).toNatClampNeg r7 → (∀ I42 : QI, I42 = q_u2 I41 51 27 ((I41 51 27) + 1) → post r7 S35 I42)))))))))))))))))))))))))))) post f 0 I)) ∧ ((I 55 (a1).toNatClampNeg) = 1 → (vp_in a1 24 ∧ (vp_in a1 24 ∧ (vp_in a1 24 ∧ (vp_in a1 24 ∧ (∃ c5 s5 : Nat, (0) + c5 ≤ c ∧ (0) + s5 ≤ s ∧ wX8_listOf ((((1200 * (I 58 (a1).toNatClampNeg)) + (200 * (I 59 (a1).toNatClampNeg))) + (I 60 (a1).toNatClampNeg)) + 99) a2 S I c5 s5 (fun r43 S44 I45 => (∃ c6 s6 : Nat, (0 + c5) + c6 ≤ c ∧ (0 + s5) + s6 ≤ s ∧ wX8_finished n (I 56 (a1).toNatClampNeg) r43 S44 I45 c6 s6 (fun r46 S47 I48 => post r46 S47 I48)))))))))))) ∧ (¬ (I 51 32) = 0 → post (-1) S I))
set_option maxRecDepth 100000 in
set_option maxHeartbeats 4000000 in
theorem s_mX8_finished {X : QX} : ∀ (n : Nat) (a1 : Int32) (a2 : Int32) (S : QS) (I : QI) (J : QJ) (c s : Nat) (post : Int32 → QS → QI → Prop), Sa S → wX8_finished n a1 a2 S I c s post → CX X mX8_finished (50 + 2 * n) c s [.ref 51, .int a1, .int a2] S I J (q_Pa S J post) := by
  intro n
  induction n with
  | zero => intro a1 a2 S I J c s post hA h; exact h.elim
  | succ n ih =>
    intro a1 a2 S I J c s post hA h
    show CX X mX8_finished (50 + 2 * n + 2) c s _ S I J _
    have hD : 50 ≤ 50 + 2 * n := Nat.le_add_right _ _
    generalize 50 + 2 * n = D at hD ih ⊢
    have hS := hA.1
    have hE : Ex S S := Ex.rf
    refine CX.of (lo := [(0, .ref 51), (1, .int a1), (2, .int a2)]) ok_mX8_finished rfl (Nat.le_of_ble_eq_true rfl) rfl ?_
    replace h : (((I 51 32) = 0 → (vp_in a1 24 ∧ ((¬ (I 55 (a1).toNatClampNeg) = 1 → (∃ f : Nat, wX8_finished_68 S a1 a2 (fun I6 => (∃ c1 s1 : Nat, (0) + c1 ≤ c ∧ (0) + s1 ≤ s ∧ wX8_become (wX8_finished n) a1 a2 S I6 c1 s1 (fun r7 S8 I9 => (∀ p10 : Nat, S8.2.2.2.2 51 28 = some p10 → ((¬ (I9 51 27) = (Int32.ofNat (S8.2.2.2.1 p10)) → (∀ p11 : Nat, S8.2.2.2.2 51 28 = some p11 → (vp_in (I9 51 27) (S8.2.2.2.1 p11) ∧ (∀ I12 : QI, I12 = q_u2 I9 p11 ((I9 51 27)).toNatClampNeg a1 → (∀ p13 : Nat, S8.2.2.2.2 51 29 = some p13 → (vp_in (I12 51 27) (S8.2.2.2.1 p13) ∧ (∀ I14 : QI, I14 = q_u2 I12 p13 ((I12 51 27)).toNatClampNeg a2 → (∀ p15 : Nat, S8.2.2.2.2 51 30 = some p15 → (vp_in (I14 51 27) (S8.2.2.2.1 p15) ∧ (∀ I16 : QI, I16 = q_u2 I14 p15 ((I14 51 27)).toNatClampNeg r7 → (∀ I17 : QI, I17 = q_u2 I16 51 27 ((I16 51 27) + 1) → post r7 S8 I17))))))))))) ∧ ((I9 51 27) = (Int32.ofNat (S8.2.2.2.1 p10)) → (∀ p18 : Nat, S8.2.2.2.2 51 28 = some p18 → (∃ c2 s2 : Nat, (0 + c1) + c2 ≤ c ∧ (0 + s1) + s2 ≤ s ∧ wX8_longer p18 S8 I9 c2 s2 (fun p19 S20 I21 => (∀ S23 : QS, S23 = q_sR S20 (q_u2 S20.2.2.2.2 51 28 (some p19)) → (∀ p24 : Nat, S23.2.2.2.2 51 29 = some p24 → (∃ c3 s3 : Nat, (0 + c1 + c2) + c3 ≤ c ∧ (0 + s1 + s2) + s3 ≤ s ∧ wX8_longer p24 S23 I21 c3 s3 (fun p25 S26 I27 => (∀ S29 : QS, S29 = q_sR S26 (q_u2 S26.2.2.2.2 51 29 (some p25)) → (∀ p30 : Nat, S29.2.2.2.2 51 30 = some p30 → (∃ c4 s4 : Nat, (0 + c1 + c2 + c3) + c4 ≤ c ∧ (0 + s1 + s2 + s3) + s4 ≤ s ∧ wX8_longer p30 S29 I27 c4 s4 (fun p31 S32 I33 => (∀ S35 : QS, S35 = q_sR S32 (q_u2 S32.2.2.2.2 51 30 (some p31)) → (∀ p36 : Nat, S35.2.2.2.2 51 28 = some p36 → (vp_in (I33 51 27) (S35.2.2.2.1 p36) ∧ (∀ I37 : QI, I37 = q_u2 I33 p36 ((I33 51 27)).toNatClampNeg a1 → (∀ p38 : Nat, S35.2.2.2.2 51 29 = some p38 → (vp_in (I37 51 27) (S35.2.2.2.1 p38) ∧ (∀ I39 : QI, I39 = q_u2 I37 p38 ((I37 51 27)).toNatClampNeg a2 → (∀ p40 : Nat, S35.2.2.2.2 51 30 = some p40 → (vp_in (I39 51 27) (S35.2.2.2.1 p40) ∧ (∀ I41 : QI, I41 = q_u2 I39 p40 ((I39 51 27)).toNatClampNeg r7 → (∀ I42 : QI, I42 = q_u2 I41 51 27 ((I41 51 27) + 1) → post r7 S35 I42)))))))))))))))))))))))))))) post f 0 I)) ∧ ((I 55 (a1).toNatClampNeg) = 1 → (vp_in a1 24 ∧ (vp_in a1 24 ∧ (vp_in a1 24 ∧ (vp_in a1 24 ∧ (∃ c5 s5 : Nat, (0) + c5 ≤ c ∧ (0) + s5 ≤ s ∧ wX8_listOf ((((1200 * (I 58 (a1).toNatClampNeg)) + (200 * (I 59 (a1).toNatClampNeg))) + (I 60 (a1).toNatClampNeg)) + 99) a2 S I c5 s5 (fun r43 S44 I45 => (∃ c6 s6 : Nat, (0 + c5) + c6 ≤ c ∧ (0 + s5) + s6 ≤ s ∧ wX8_finished n (I 56 (a1).toNatClampNeg) r43 S44 I45 c6 s6 (fun r46 S47 I48 => post r46 S47 I48)))))))))))) ∧ (¬ (I 51 32) = 0 → post (-1) S I)) := h
    refine V_aload_n dX8_finished_0 rfl rfl ?_
    refine V_geti dX8_finished_1 fl_RX8_228 (hS.n 51 rfl) (hS.k 51 8 rfl) rfl ?_
    refine V_if_eq 9 dX8_finished_4 rfl (fun hc => ?_) (fun hc => ?_)
    · replace h := h.1 hc
      refine V_aload_n dX8_finished_9 rfl rfl ?_
      refine V_getr dX8_finished_10 fl_RX8_19 (hS.n 51 rfl) (hS.k 51 8 rfl) rfl (hS.r 51 6 55 rfl) ?_
      refine V_iload_n dX8_finished_13 rfl rfl ?_
      obtain ⟨hb, h⟩ := h
      refine V_iald dX8_finished_14 (hS.n 55 rfl) (hS.k 55 9 rfl) (by rw [(hS.z 55 24 rfl)]; exact hb) ?_
      refine V_iconst (v := 1) dX8_finished_15 (by decide) ?_
      refine V_icmp_ne 66 dX8_finished_16 rfl (fun hc => ?_) (fun hc => ?_)
      · replace h := h.1 hc
        refine V_iconst (v := 0) dX8_finished_66 (by decide) ?_
        refine V_istore_n (lo2 := [(3, .int 0), (0, .ref 51), (1, .int a1), (2, .int a2)]) dX8_finished_67 rfl (by decide) rfl ?_
        refine V_sub (lo2 := [(0, .ref 51), (1, .int a1), (2, .int a2), (3, .int 0)]) [1, 2, 3, 0] rfl ?_
        obtain ⟨f9, h⟩ := h
        refine swX8_finished_68 (D := D) (by omega) hA ?_ f9 _ _ h
        · intro I6 h
          refine V_aload_n dX8_finished_109 rfl rfl ?_
          refine V_iload_n dX8_finished_110 rfl rfl ?_
          refine V_iload_n dX8_finished_111 rfl rfl ?_
          obtain ⟨c1, s1, hcc1, hss1, h⟩ := h
          refine V_callVa (st := []) [.int a1, .int a2] dX8_finished_112 ok_mX8_become rfl ml_RX8_244 in_mX8_become se_mX8_become (hS.n 51 rfl) (hS.k 51 8 rfl) (by decide) rfl (Nat.le_of_ble_eq_true rfl) (by omega) hcc1 hss1 (q_vb80 hS rfl) (q_vb80 hS rfl) (s_mX8_become hD (fun a1 a2 S I J c s post hA h => ih a1 a2 S I J c s post hA h) hA h) (fun r7 S8 I9 hA9 hE9 h => ?_)
          replace hE9 := hE.tr hE9
          clear hA hE hS
          have hA := hA9
          have hE := hE9
          have hS := hA.1
          refine V_istore_n (lo2 := [(3, .int r7), (0, .ref 51), (1, .int a1), (2, .int a2)]) dX8_finished_115 rfl (by decide) rfl ?_
          refine V_aload_n dX8_finished_116 rfl rfl ?_
          refine V_geti dX8_finished_117 fl_RX8_241 (hS.n 51 rfl) (hS.k 51 8 rfl) rfl ?_
          refine V_aload_n dX8_finished_120 rfl rfl ?_
          obtain ⟨p10, ep10, h7p10, hNp10, hKp10⟩ := hA.2.2.1 28 (by decide)
          refine V_getr dX8_finished_121 fl_RX8_77 (hS.n 51 rfl) (hS.k 51 8 rfl) rfl ep10 ?_
          replace h := h p10 ep10
          refine V_alenI (v := Int32.ofNat (S8.2.2.2.1 p10)) dX8_finished_124 hNp10 hKp10 rfl ?_
          refine V_icmp_ne 161 dX8_finished_125 rfl (fun hc => ?_) (fun hc => ?_)
          · replace h := h.1 hc
            refine V_aload_n dX8_finished_161 rfl rfl ?_
            obtain ⟨p11, ep11, h7p11, hNp11, hKp11⟩ := hA.2.2.1 28 (by decide)
            refine V_getr dX8_finished_162 fl_RX8_77 (hS.n 51 rfl) (hS.k 51 8 rfl) rfl ep11 ?_
            replace h := h p11 ep11
            refine V_aload_n dX8_finished_165 rfl rfl ?_
            refine V_geti dX8_finished_166 fl_RX8_241 (hS.n 51 rfl) (hS.k 51 8 rfl) rfl ?_
            refine V_iload_n dX8_finished_169 rfl rfl ?_
            obtain ⟨hb, h⟩ := h
            refine V_iast dX8_finished_170 hNp11 hKp11 hb ?_
            refine V_memI (fun I12 e_I12 => ?_)
            replace h := h I12 e_I12
            refine V_aload_n dX8_finished_171 rfl rfl ?_
            obtain ⟨p13, ep13, h7p13, hNp13, hKp13⟩ := hA.2.2.1 29 (by decide)
            refine V_getr dX8_finished_172 fl_RX8_80 (hS.n 51 rfl) (hS.k 51 8 rfl) rfl ep13 ?_
            replace h := h p13 ep13
            refine V_aload_n dX8_finished_175 rfl rfl ?_
            refine V_geti dX8_finished_176 fl_RX8_241 (hS.n 51 rfl) (hS.k 51 8 rfl) rfl ?_
            refine V_iload_n dX8_finished_179 rfl rfl ?_
            obtain ⟨hb, h⟩ := h
            refine V_iast dX8_finished_180 hNp13 hKp13 hb ?_
            refine V_memI (fun I14 e_I14 => ?_)
            replace h := h I14 e_I14
            refine V_aload_n dX8_finished_181 rfl rfl ?_
            obtain ⟨p15, ep15, h7p15, hNp15, hKp15⟩ := hA.2.2.1 30 (by decide)
            refine V_getr dX8_finished_182 fl_RX8_83 (hS.n 51 rfl) (hS.k 51 8 rfl) rfl ep15 ?_
            replace h := h p15 ep15
            refine V_aload_n dX8_finished_185 rfl rfl ?_
            refine V_geti dX8_finished_186 fl_RX8_241 (hS.n 51 rfl) (hS.k 51 8 rfl) rfl ?_
            refine V_iload_n dX8_finished_189 rfl rfl ?_
            obtain ⟨hb, h⟩ := h
            refine V_iast dX8_finished_190 hNp15 hKp15 hb ?_
            refine V_memI (fun I16 e_I16 => ?_)
            replace h := h I16 e_I16
            refine V_aload_n dX8_finished_191 rfl rfl ?_
            refine V_dup dX8_finished_192 rfl ?_
            refine V_geti dX8_finished_193 fl_RX8_241 (hS.n 51 rfl) (hS.k 51 8 rfl) rfl ?_
            refine V_iconst (v := 1) dX8_finished_196 (by decide) ?_
            refine V_iadd dX8_finished_197 ?_
            refine V_puti dX8_finished_198 fl_RX8_241 rfl (hS.n 51 rfl) (hS.k 51 8 rfl) rfl rfl rfl ?_
            refine V_memI (fun I17 e_I17 => ?_)
            replace h := h I17 e_I17
            refine V_iload_n dX8_finished_201 rfl rfl ?_
            exact V_iret dX8_finished_202 rfl (by omega) (by omega) ⟨_, rfl, rfl, hA, hE, h⟩
          · replace h := h.2 hc
            refine V_aload_n dX8_finished_128 rfl rfl ?_
            refine V_aload_n dX8_finished_129 rfl rfl ?_
            obtain ⟨p18, ep18, h7p18, hNp18, hKp18⟩ := hA.2.2.1 28 (by decide)
            refine V_getr dX8_finished_130 fl_RX8_77 (hS.n 51 rfl) (hS.k 51 8 rfl) rfl ep18 ?_
            replace h := h p18 ep18
            obtain ⟨c2, s2, hcc2, hss2, h⟩ := h
            refine V_callSg (st := [.ref 51]) [.ref p18] dX8_finished_133 ok_mX8_longer rfl ml_RX8_211 st_mX8_longer (Nat.le_of_ble_eq_true rfl) (by omega) hcc2 hss2 (q_vb80 hS rfl) (q_vb80 hS rfl) (s_mX8_longer hA hNp18 hKp18 h) (fun p19 S20 I21 hA9 hE9 h7p19 hNp19 hKp19 h => ?_)
            replace hE9 := hE.tr hE9
            clear hA hE hS
            have hA := hA9
            have hE := hE9
            have hS := hA.1
            refine V_putr dX8_finished_136 fl_RX8_77 rfl (hS.n 51 rfl) (hS.k 51 8 rfl) rfl (fun _ => rfl) (fun _ => rfl) ?_
            have hA9 := hA.put (j := 28) (by decide) h7p19 hNp19 hKp19
            have hE9 := hE.tr (Ex.put S20 (q_u2 S20.2.2.2.2 51 28 (some p19)))
            refine V_memS (fun S23 e_S23 => ?_)
            rw [← e_S23] at hA9 hE9
            replace h := h S23 e_S23
            clear hA hE hS
            have hA := hA9
            have hE := hE9
            have hS := hA.1
            refine V_aload_n dX8_finished_139 rfl rfl ?_
            refine V_aload_n dX8_finished_140 rfl rfl ?_
            obtain ⟨p24, ep24, h7p24, hNp24, hKp24⟩ := hA.2.2.1 29 (by decide)
            refine V_getr dX8_finished_141 fl_RX8_80 (hS.n 51 rfl) (hS.k 51 8 rfl) rfl ep24 ?_
            replace h := h p24 ep24
            obtain ⟨c3, s3, hcc3, hss3, h⟩ := h
            refine V_callSg (st := [.ref 51]) [.ref p24] dX8_finished_144 ok_mX8_longer rfl ml_RX8_211 st_mX8_longer (Nat.le_of_ble_eq_true rfl) (by omega) hcc3 hss3 (q_vb80 hS rfl) (q_vb80 hS rfl) (s_mX8_longer hA hNp24 hKp24 h) (fun p25 S26 I27 hA9 hE9 h7p25 hNp25 hKp25 h => ?_)
            replace hE9 := hE.tr hE9
            clear hA hE hS
            have hA := hA9
            have hE := hE9
            have hS := hA.1
            refine V_putr dX8_finished_147 fl_RX8_80 rfl (hS.n 51 rfl) (hS.k 51 8 rfl) rfl (fun _ => rfl) (fun _ => rfl) ?_
            have hA9 := hA.put (j := 29) (by decide) h7p25 hNp25 hKp25
            have hE9 := hE.tr (Ex.put S26 (q_u2 S26.2.2.2.2 51 29 (some p25)))
            refine V_memS (fun S29 e_S29 => ?_)
            rw [← e_S29] at hA9 hE9
            replace h := h S29 e_S29
            clear hA hE hS
            have hA := hA9
            have hE := hE9
            have hS := hA.1
            refine V_aload_n dX8_finished_150 rfl rfl ?_
            refine V_aload_n dX8_finished_151 rfl rfl ?_
            obtain ⟨p30, ep30, h7p30, hNp30, hKp30⟩ := hA.2.2.1 30 (by decide)
            refine V_getr dX8_finished_152 fl_RX8_83 (hS.n 51 rfl) (hS.k 51 8 rfl) rfl ep30 ?_
            replace h := h p30 ep30
            obtain ⟨c4, s4, hcc4, hss4, h⟩ := h
            refine V_callSg (st := [.ref 51]) [.ref p30] dX8_finished_155 ok_mX8_longer rfl ml_RX8_211 st_mX8_longer (Nat.le_of_ble_eq_true rfl) (by omega) hcc4 hss4 (q_vb80 hS rfl) (q_vb80 hS rfl) (s_mX8_longer hA hNp30 hKp30 h) (fun p31 S32 I33 hA9 hE9 h7p31 hNp31 hKp31 h => ?_)
            replace hE9 := hE.tr hE9
            clear hA hE hS
            have hA := hA9
            have hE := hE9
            have hS := hA.1
            refine V_putr dX8_finished_158 fl_RX8_83 rfl (hS.n 51 rfl) (hS.k 51 8 rfl) rfl (fun _ => rfl) (fun _ => rfl) ?_
            have hA9 := hA.put (j := 30) (by decide) h7p31 hNp31 hKp31
            have hE9 := hE.tr (Ex.put S32 (q_u2 S32.2.2.2.2 51 30 (some p31)))
            refine V_memS (fun S35 e_S35 => ?_)
            rw [← e_S35] at hA9 hE9
            replace h := h S35 e_S35
            clear hA hE hS
            have hA := hA9
            have hE := hE9
            have hS := hA.1
            refine V_aload_n dX8_finished_161 rfl rfl ?_
            obtain ⟨p36, ep36, h7p36, hNp36, hKp36⟩ := hA.2.2.1 28 (by decide)
            refine V_getr dX8_finished_162 fl_RX8_77 (hS.n 51 rfl) (hS.k 51 8 rfl) rfl ep36 ?_
            replace h := h p36 ep36
            refine V_aload_n dX8_finished_165 rfl rfl ?_
            refine V_geti dX8_finished_166 fl_RX8_241 (hS.n 51 rfl) (hS.k 51 8 rfl) rfl ?_
            refine V_iload_n dX8_finished_169 rfl rfl ?_
            obtain ⟨hb, h⟩ := h
            refine V_iast dX8_finished_170 hNp36 hKp36 hb ?_
            refine V_memI (fun I37 e_I37 => ?_)
            replace h := h I37 e_I37
            refine V_aload_n dX8_finished_171 rfl rfl ?_
            obtain ⟨p38, ep38, h7p38, hNp38, hKp38⟩ := hA.2.2.1 29 (by decide)
            refine V_getr dX8_finished_172 fl_RX8_80 (hS.n 51 rfl) (hS.k 51 8 rfl) rfl ep38 ?_
            replace h := h p38 ep38
            refine V_aload_n dX8_finished_175 rfl rfl ?_
            refine V_geti dX8_finished_176 fl_RX8_241 (hS.n 51 rfl) (hS.k 51 8 rfl) rfl ?_
            refine V_iload_n dX8_finished_179 rfl rfl ?_
            obtain ⟨hb, h⟩ := h
            refine V_iast dX8_finished_180 hNp38 hKp38 hb ?_
            refine V_memI (fun I39 e_I39 => ?_)
            replace h := h I39 e_I39
            refine V_aload_n dX8_finished_181 rfl rfl ?_
            obtain ⟨p40, ep40, h7p40, hNp40, hKp40⟩ := hA.2.2.1 30 (by decide)
            refine V_getr dX8_finished_182 fl_RX8_83 (hS.n 51 rfl) (hS.k 51 8 rfl) rfl ep40 ?_
            replace h := h p40 ep40
            refine V_aload_n dX8_finished_185 rfl rfl ?_
            refine V_geti dX8_finished_186 fl_RX8_241 (hS.n 51 rfl) (hS.k 51 8 rfl) rfl ?_
            refine V_iload_n dX8_finished_189 rfl rfl ?_
            obtain ⟨hb, h⟩ := h
            refine V_iast dX8_finished_190 hNp40 hKp40 hb ?_
            refine V_memI (fun I41 e_I41 => ?_)
            replace h := h I41 e_I41
            refine V_aload_n dX8_finished_191 rfl rfl ?_
            refine V_dup dX8_finished_192 rfl ?_
            refine V_geti dX8_finished_193 fl_RX8_241 (hS.n 51 rfl) (hS.k 51 8 rfl) rfl ?_
            refine V_iconst (v := 1) dX8_finished_196 (by decide) ?_
            refine V_iadd dX8_finished_197 ?_
            refine V_puti dX8_finished_198 fl_RX8_241 rfl (hS.n 51 rfl) (hS.k 51 8 rfl) rfl rfl rfl ?_
            refine V_memI (fun I42 e_I42 => ?_)
            replace h := h I42 e_I42
            refine V_iload_n dX8_finished_201 rfl rfl ?_
            exact V_iret dX8_finished_202 rfl (by omega) (by omega) ⟨_, rfl, rfl, hA, hE, h⟩
      · replace h := h.2 hc
        refine V_aload_n dX8_finished_19 rfl rfl ?_
        refine V_aload_n dX8_finished_20 rfl rfl ?_
        refine V_getr dX8_finished_21 fl_RX8_22 (hS.n 51 rfl) (hS.k 51 8 rfl) rfl (hS.r 51 7 56 rfl) ?_
        refine V_iload_n dX8_finished_24 rfl rfl ?_
        obtain ⟨hb, h⟩ := h
        refine V_iald dX8_finished_25 (hS.n 56 rfl) (hS.k 56 9 rfl) (by rw [(hS.z 56 24 rfl)]; exact hb) ?_
        refine V_aload_n dX8_finished_26 rfl rfl ?_
        refine V_sipush (v := 1200) dX8_finished_27 (by decide) ?_
        refine V_aload_n dX8_finished_30 rfl rfl ?_
        refine V_getr dX8_finished_31 fl_RX8_28 (hS.n 51 rfl) (hS.k 51 8 rfl) rfl (hS.r 51 9 58 rfl) ?_
        refine V_iload_n dX8_finished_34 rfl rfl ?_
        obtain ⟨hb, h⟩ := h
        refine V_iald dX8_finished_35 (hS.n 58 rfl) (hS.k 58 9 rfl) (by rw [(hS.z 58 24 rfl)]; exact hb) ?_
        refine V_imul dX8_finished_36 ?_
        refine V_sipush (v := 200) dX8_finished_37 (by decide) ?_
        refine V_aload_n dX8_finished_40 rfl rfl ?_
        refine V_getr dX8_finished_41 fl_RX8_31 (hS.n 51 rfl) (hS.k 51 8 rfl) rfl (hS.r 51 10 59 rfl) ?_
        refine V_iload_n dX8_finished_44 rfl rfl ?_
        obtain ⟨hb, h⟩ := h
        refine V_iald dX8_finished_45 (hS.n 59 rfl) (hS.k 59 9 rfl) (by rw [(hS.z 59 24 rfl)]; exact hb) ?_
        refine V_imul dX8_finished_46 ?_
        refine V_iadd dX8_finished_47 ?_
        refine V_aload_n dX8_finished_48 rfl rfl ?_
        refine V_getr dX8_finished_49 fl_RX8_34 (hS.n 51 rfl) (hS.k 51 8 rfl) rfl (hS.r 51 11 60 rfl) ?_
        refine V_iload_n dX8_finished_52 rfl rfl ?_
        obtain ⟨hb, h⟩ := h
        refine V_iald dX8_finished_53 (hS.n 60 rfl) (hS.k 60 9 rfl) (by rw [(hS.z 60 24 rfl)]; exact hb) ?_
        refine V_iadd dX8_finished_54 ?_
        refine V_bipush (v := 99) dX8_finished_55 (by decide) ?_
        refine V_iadd dX8_finished_57 ?_
        refine V_iload_n dX8_finished_58 rfl rfl ?_
        obtain ⟨c5, s5, hcc5, hss5, h⟩ := h
        refine V_callVa (st := [.int (I 56 (a1).toNatClampNeg), .ref 51]) [.int ((((1200 * (I 58 (a1).toNatClampNeg)) + (200 * (I 59 (a1).toNatClampNeg))) + (I 60 (a1).toNatClampNeg)) + 99), .int a2] dX8_finished_59 ok_mX8_listOf rfl ml_RX8_225 in_mX8_listOf se_mX8_listOf (hS.n 51 rfl) (hS.k 51 8 rfl) (by decide) rfl (Nat.le_of_ble_eq_true rfl) (by omega) hcc5 hss5 (q_vb80 hS rfl) (q_vb80 hS rfl) (s_mX8_listOf hA h) (fun r43 S44 I45 hA9 hE9 h => ?_)
        replace hE9 := hE.tr hE9
        clear hA hE hS
        have hA := hA9
        have hE := hE9
        have hS := hA.1
        obtain ⟨c6, s6, hcc6, hss6, h⟩ := h
        refine V_callVa (st := []) [.int (I 56 (a1).toNatClampNeg), .int r43] dX8_finished_62 ok_mX8_finished rfl ml_RX8_238 in_mX8_finished se_mX8_finished (hS.n 51 rfl) (hS.k 51 8 rfl) (by decide) rfl (Nat.le_of_ble_eq_true rfl) (by omega) hcc6 hss6 (q_vb80 hS rfl) (q_vb80 hS rfl) (ih _ _ _ _ _ _ _ _ hA h) (fun r46 S47 I48 hA9 hE9 h => ?_)
        replace hE9 := hE.tr hE9
        clear hA hE hS
        have hA := hA9
        have hE := hE9
        have hS := hA.1
        exact V_iret dX8_finished_65 rfl (by omega) (by omega) ⟨_, rfl, rfl, hA, hE, h⟩
    · replace h := h.2 hc
      refine V_iconst (v := (-1)) dX8_finished_7 (by decide) ?_
      exact V_iret dX8_finished_8 rfl (by omega) (by omega) ⟨_, rfl, rfl, hA, hE, h⟩
def wX8_rewrite (a1 : Int32) (S : QS) (I : QI) (c s : Nat) (post : Int32 → QS → QI → Prop) : Prop := (wX8_isNode a1 I (fun r1 => ((r1 = 0 → (wX8_goesWell 1 I (fun r3 I2 => ((¬ r3 = 0 → (∀ I4 : QI, I4 = q_u2 I2 51 24 0 → (∀ I5 : QI, I5 = q_u2 I4 51 27 0 → (∀ v6 : Int32, v6 = (I5 51 5) → (∀ I7 : QI, I7 = q_u2 I5 51 32 0 → (∃ c1 s1 : Nat, (0) + c1 ≤ c ∧ (0) + s1 ≤ s ∧ wX8_finished 26 a1 (-1) S I7 c1 s1 (fun r8 S9 I10 => (((I10 51 32) = 0 → (∀ I11 : QI, I11 = q_u2 I10 51 5 (I10 51 5) → (((I11 51 32) = 0 → (wX8_goesWell 0 I11 (fun r13 I12 => ((r13 = 0 → post 0 S9 I12) ∧ (¬ r13 = 0 → post r8 S9 I12))))) ∧ (¬ (I11 51 32) = 0 → (wX8_goesWell 2 I11 (fun r15 I14 => ((r15 = 0 → post 0 S9 I14) ∧ (¬ r15 = 0 → post r8 S9 I14)))))))) ∧ (¬ (I10 51 32) = 0 → (∀ I16 : QI, I16 = q_u2 I10 51 5 v6 → (((I16 51 32) = 0 → (wX8_goesWell 0 I16 (fun r18 I17 => ((r18 = 0 → post 0 S9 I17) ∧ (¬ r18 = 0 → post r8 S9 I17))))) ∧ (¬ (I16 51 32) = 0 → (wX8_goesWell 2 I16 (fun r20 I19 => ((r20 = 0 → post 0 S9 I19) ∧ (¬ r20 = 0 → post r8 S9 I19)))))))))))))))) ∧ (r3 = 0 → post 0 S I2))))) ∧ (¬ r1 = 0 → (wX8_goesWell 0 I (fun r22 I21 => ((¬ r22 = 0 → (∀ I23 : QI, I23 = q_u2 I21 51 24 0 → (∀ I24 : QI, I24 = q_u2 I23 51 27 0 → (∀ v25 : Int32, v25 = (I24 51 5) → (∀ I26 : QI, I26 = q_u2 I24 51 32 0 → (∃ c2 s2 : Nat, (0) + c2 ≤ c ∧ (0) + s2 ≤ s ∧ wX8_finished 26 a1 (-1) S I26 c2 s2 (fun r27 S28 I29 => (((I29 51 32) = 0 → (∀ I30 : QI, I30 = q_u2 I29 51 5 (I29 51 5) → (((I30 51 32) = 0 → (wX8_goesWell 0 I30 (fun r32 I31 => ((r32 = 0 → post 0 S28 I31) ∧ (¬ r32 = 0 → post r27 S28 I31))))) ∧ (¬ (I30 51 32) = 0 → (wX8_goesWell 2 I30 (fun r34 I33 => ((r34 = 0 → post 0 S28 I33) ∧ (¬ r34 = 0 → post r27 S28 I33)))))))) ∧ (¬ (I29 51 32) = 0 → (∀ I35 : QI, I35 = q_u2 I29 51 5 v25 → (((I35 51 32) = 0 → (wX8_goesWell 0 I35 (fun r37 I36 => ((r37 = 0 → post 0 S28 I36) ∧ (¬ r37 = 0 → post r27 S28 I36))))) ∧ (¬ (I35 51 32) = 0 → (wX8_goesWell 2 I35 (fun r39 I38 => ((r39 = 0 → post 0 S28 I38) ∧ (¬ r39 = 0 → post r27 S28 I38)))))))))))))))) ∧ (r22 = 0 → post 0 S I21))))))))
set_option maxRecDepth 100000 in
set_option maxHeartbeats 4000000 in
theorem s_mX8_rewrite {X : QX} {S : QS} {a1 : Int32} {I : QI} {J : QJ} {c s : Nat} {post : Int32 → QS → QI → Prop} (hA : Sa S) (h : wX8_rewrite a1 S I c s post) : CX X mX8_rewrite 110 c s [.ref 51, .int a1] S I J (q_Pa S J post) := by
  have hS := hA.1
  have hE : Ex S S := Ex.rf
  refine CX.of (lo := [(0, .ref 51), (1, .int a1)]) ok_mX8_rewrite rfl (Nat.le_of_ble_eq_true rfl) rfl ?_
  replace h : (wX8_isNode a1 I (fun r1 => ((r1 = 0 → (wX8_goesWell 1 I (fun r3 I2 => ((¬ r3 = 0 → (∀ I4 : QI, I4 = q_u2 I2 51 24 0 → (∀ I5 : QI, I5 = q_u2 I4 51 27 0 → (∀ v6 : Int32, v6 = (I5 51 5) → (∀ I7 : QI, I7 = q_u2 I5 51 32 0 → (∃ c1 s1 : Nat, (0) + c1 ≤ c ∧ (0) + s1 ≤ s ∧ wX8_finished 26 a1 (-1) S I7 c1 s1 (fun r8 S9 I10 => (((I10 51 32) = 0 → (∀ I11 : QI, I11 = q_u2 I10 51 5 (I10 51 5) → (((I11 51 32) = 0 → (wX8_goesWell 0 I11 (fun r13 I12 => ((r13 = 0 → post 0 S9 I12) ∧ (¬ r13 = 0 → post r8 S9 I12))))) ∧ (¬ (I11 51 32) = 0 → (wX8_goesWell 2 I11 (fun r15 I14 => ((r15 = 0 → post 0 S9 I14) ∧ (¬ r15 = 0 → post r8 S9 I14)))))))) ∧ (¬ (I10 51 32) = 0 → (∀ I16 : QI, I16 = q_u2 I10 51 5 v6 → (((I16 51 32) = 0 → (wX8_goesWell 0 I16 (fun r18 I17 => ((r18 = 0 → post 0 S9 I17) ∧ (¬ r18 = 0 → post r8 S9 I17))))) ∧ (¬ (I16 51 32) = 0 → (wX8_goesWell 2 I16 (fun r20 I19 => ((r20 = 0 → post 0 S9 I19) ∧ (¬ r20 = 0 → post r8 S9 I19)))))))))))))))) ∧ (r3 = 0 → post 0 S I2))))) ∧ (¬ r1 = 0 → (wX8_goesWell 0 I (fun r22 I21 => ((¬ r22 = 0 → (∀ I23 : QI, I23 = q_u2 I21 51 24 0 → (∀ I24 : QI, I24 = q_u2 I23 51 27 0 → (∀ v25 : Int32, v25 = (I24 51 5) → (∀ I26 : QI, I26 = q_u2 I24 51 32 0 → (∃ c2 s2 : Nat, (0) + c2 ≤ c ∧ (0) + s2 ≤ s ∧ wX8_finished 26 a1 (-1) S I26 c2 s2 (fun r27 S28 I29 => (((I29 51 32) = 0 → (∀ I30 : QI, I30 = q_u2 I29 51 5 (I29 51 5) → (((I30 51 32) = 0 → (wX8_goesWell 0 I30 (fun r32 I31 => ((r32 = 0 → post 0 S28 I31) ∧ (¬ r32 = 0 → post r27 S28 I31))))) ∧ (¬ (I30 51 32) = 0 → (wX8_goesWell 2 I30 (fun r34 I33 => ((r34 = 0 → post 0 S28 I33) ∧ (¬ r34 = 0 → post r27 S28 I33)))))))) ∧ (¬ (I29 51 32) = 0 → (∀ I35 : QI, I35 = q_u2 I29 51 5 v25 → (((I35 51 32) = 0 → (wX8_goesWell 0 I35 (fun r37 I36 => ((r37 = 0 → post 0 S28 I36) ∧ (¬ r37 = 0 → post r27 S28 I36))))) ∧ (¬ (I35 51 32) = 0 → (wX8_goesWell 2 I35 (fun r39 I38 => ((r39 = 0 → post 0 S28 I38) ∧ (¬ r39 = 0 → post r27 S28 I38)))))))))))))))) ∧ (r22 = 0 → post 0 S I21)))))))) := h
  refine V_aload_n dX8_rewrite_0 rfl rfl ?_
  refine V_aload_n dX8_rewrite_1 rfl rfl ?_
  refine V_iload_n dX8_rewrite_2 rfl rfl ?_
  refine V_callVi (st := [.ref 51]) [.int a1] dX8_rewrite_3 ok_mX8_isNode rfl ml_RX8_121 in_mX8_isNode se_mX8_isNode (hS.n 51 rfl) (hS.k 51 8 rfl) (by decide) rfl (Nat.le_of_ble_eq_true rfl) (by omega) (by omega) (by omega) (s_mX8_isNode hS h) (fun r1 I9 J9 h => ?_)
  obtain ⟨rfl, rfl, h⟩ := h
  refine V_if_eq 13 dX8_rewrite_6 rfl (fun hc => ?_) (fun hc => ?_)
  · replace h := h.1 hc
    refine V_iconst (v := 1) dX8_rewrite_13 (by decide) ?_
    refine V_callVi (st := []) [.int 1] dX8_rewrite_14 ok_mX8_goesWell rfl ml_RX8_112 in_mX8_goesWell se_mX8_goesWell (hS.n 51 rfl) (hS.k 51 8 rfl) (by decide) rfl (Nat.le_of_ble_eq_true rfl) (by omega) (by omega) (by omega) (s_mX8_goesWell hS h) (fun r3 I2 J9 h => ?_)
    obtain ⟨rfl, h⟩ := h
    refine V_if_ne 22 dX8_rewrite_17 rfl (fun hc => ?_) (fun hc => ?_)
    · replace h := h.1 hc
      refine V_aload_n dX8_rewrite_22 rfl rfl ?_
      refine V_iconst (v := 0) dX8_rewrite_23 (by decide) ?_
      refine V_puti dX8_rewrite_24 fl_RX8_208 rfl (hS.n 51 rfl) (hS.k 51 8 rfl) rfl rfl rfl ?_
      refine V_memI (fun I4 e_I4 => ?_)
      replace h := h I4 e_I4
      refine V_aload_n dX8_rewrite_27 rfl rfl ?_
      refine V_iconst (v := 0) dX8_rewrite_28 (by decide) ?_
      refine V_puti dX8_rewrite_29 fl_RX8_241 rfl (hS.n 51 rfl) (hS.k 51 8 rfl) rfl rfl rfl ?_
      refine V_memI (fun I5 e_I5 => ?_)
      replace h := h I5 e_I5
      refine V_aload_n dX8_rewrite_32 rfl rfl ?_
      refine V_geti dX8_rewrite_33 fl_RX8_118 (hS.n 51 rfl) (hS.k 51 8 rfl) rfl ?_
      refine V_topi (fun v6 e_v6 => ?_)
      replace h := h v6 e_v6
      refine V_istore_n (lo2 := [(2, .int v6), (0, .ref 51), (1, .int a1)]) dX8_rewrite_36 rfl (by decide) rfl ?_
      refine V_aload_n dX8_rewrite_37 rfl rfl ?_
      refine V_iconst (v := 0) dX8_rewrite_38 (by decide) ?_
      refine V_puti dX8_rewrite_39 fl_RX8_228 rfl (hS.n 51 rfl) (hS.k 51 8 rfl) rfl (q_nz (by decide)) (q_fz (by decide)) ?_
      refine V_memI (fun I7 e_I7 => ?_)
      replace h := h I7 e_I7
      refine V_aload_n dX8_rewrite_42 rfl rfl ?_
      refine V_iload_n dX8_rewrite_43 rfl rfl ?_
      refine V_iconst (v := (-1)) dX8_rewrite_44 (by decide) ?_
      obtain ⟨c1, s1, hcc1, hss1, h⟩ := h
      refine V_callVa (st := []) [.int a1, .int (-1)] dX8_rewrite_45 ok_mX8_finished rfl ml_RX8_238 in_mX8_finished se_mX8_finished (hS.n 51 rfl) (hS.k 51 8 rfl) (by decide) rfl (Nat.le_of_ble_eq_true rfl) (by omega) hcc1 hss1 (q_vb80 hS rfl) (q_vb80 hS rfl) (s_mX8_finished 26 _ _ _ _ _ _ _ _ hA h) (fun r8 S9 I10 hA9 hE9 h => ?_)
      replace hE9 := hE.tr hE9
      clear hA hE hS
      have hA := hA9
      have hE := hE9
      have hS := hA.1
      refine V_istore_n (lo2 := [(3, .int r8), (2, .int v6), (0, .ref 51), (1, .int a1)]) dX8_rewrite_48 rfl (by decide) rfl ?_
      refine V_aload_n dX8_rewrite_49 rfl rfl ?_
      refine V_aload_n dX8_rewrite_50 rfl rfl ?_
      refine V_geti dX8_rewrite_51 fl_RX8_228 (hS.n 51 rfl) (hS.k 51 8 rfl) rfl ?_
      refine V_if_eq 61 dX8_rewrite_54 rfl (fun hc => ?_) (fun hc => ?_)
      · replace h := h.1 hc
        refine V_aload_n dX8_rewrite_61 rfl rfl ?_
        refine V_geti dX8_rewrite_62 fl_RX8_118 (hS.n 51 rfl) (hS.k 51 8 rfl) rfl ?_
        refine V_puti dX8_rewrite_65 fl_RX8_118 rfl (hS.n 51 rfl) (hS.k 51 8 rfl) rfl rfl rfl ?_
        refine V_memI (fun I11 e_I11 => ?_)
        replace h := h I11 e_I11
        refine V_aload_n dX8_rewrite_68 rfl rfl ?_
        refine V_aload_n dX8_rewrite_69 rfl rfl ?_
        refine V_geti dX8_rewrite_70 fl_RX8_228 (hS.n 51 rfl) (hS.k 51 8 rfl) rfl ?_
        refine V_if_eq 80 dX8_rewrite_73 rfl (fun hc => ?_) (fun hc => ?_)
        · replace h := h.1 hc
          refine V_iconst (v := 0) dX8_rewrite_80 (by decide) ?_
          refine V_callVi (st := []) [.int 0] dX8_rewrite_81 ok_mX8_goesWell rfl ml_RX8_112 in_mX8_goesWell se_mX8_goesWell (hS.n 51 rfl) (hS.k 51 8 rfl) (by decide) rfl (Nat.le_of_ble_eq_true rfl) (by omega) (by omega) (by omega) (s_mX8_goesWell hS h) (fun r13 I12 J9 h => ?_)
          obtain ⟨rfl, h⟩ := h
          refine V_if_eq 91 dX8_rewrite_84 rfl (fun hc => ?_) (fun hc => ?_)
          · replace h := h.1 hc
            refine V_iconst (v := 0) dX8_rewrite_91 (by decide) ?_
            exact V_iret dX8_rewrite_92 rfl (by omega) (by omega) ⟨_, rfl, rfl, hA, hE, h⟩
          · replace h := h.2 hc
            refine V_iload_n dX8_rewrite_87 rfl rfl ?_
            refine V_goto 92 dX8_rewrite_88 rfl ?_
            exact V_iret dX8_rewrite_92 rfl (by omega) (by omega) ⟨_, rfl, rfl, hA, hE, h⟩
        · replace h := h.2 hc
          refine V_iconst (v := 2) dX8_rewrite_76 (by decide) ?_
          refine V_goto 81 dX8_rewrite_77 rfl ?_
          refine V_callVi (st := []) [.int 2] dX8_rewrite_81 ok_mX8_goesWell rfl ml_RX8_112 in_mX8_goesWell se_mX8_goesWell (hS.n 51 rfl) (hS.k 51 8 rfl) (by decide) rfl (Nat.le_of_ble_eq_true rfl) (by omega) (by omega) (by omega) (s_mX8_goesWell hS h) (fun r15 I14 J9 h => ?_)
          obtain ⟨rfl, h⟩ := h
          refine V_if_eq 91 dX8_rewrite_84 rfl (fun hc => ?_) (fun hc => ?_)
          · replace h := h.1 hc
            refine V_iconst (v := 0) dX8_rewrite_91 (by decide) ?_
            exact V_iret dX8_rewrite_92 rfl (by omega) (by omega) ⟨_, rfl, rfl, hA, hE, h⟩
          · replace h := h.2 hc
            refine V_iload_n dX8_rewrite_87 rfl rfl ?_
            refine V_goto 92 dX8_rewrite_88 rfl ?_
            exact V_iret dX8_rewrite_92 rfl (by omega) (by omega) ⟨_, rfl, rfl, hA, hE, h⟩
      · replace h := h.2 hc
        refine V_iload_n dX8_rewrite_57 rfl rfl ?_
        refine V_goto 65 dX8_rewrite_58 rfl ?_
        refine V_puti dX8_rewrite_65 fl_RX8_118 rfl (hS.n 51 rfl) (hS.k 51 8 rfl) rfl rfl rfl ?_
        refine V_memI (fun I16 e_I16 => ?_)
        replace h := h I16 e_I16
        refine V_aload_n dX8_rewrite_68 rfl rfl ?_
        refine V_aload_n dX8_rewrite_69 rfl rfl ?_
        refine V_geti dX8_rewrite_70 fl_RX8_228 (hS.n 51 rfl) (hS.k 51 8 rfl) rfl ?_
        refine V_if_eq 80 dX8_rewrite_73 rfl (fun hc => ?_) (fun hc => ?_)
        · replace h := h.1 hc
          refine V_iconst (v := 0) dX8_rewrite_80 (by decide) ?_
          refine V_callVi (st := []) [.int 0] dX8_rewrite_81 ok_mX8_goesWell rfl ml_RX8_112 in_mX8_goesWell se_mX8_goesWell (hS.n 51 rfl) (hS.k 51 8 rfl) (by decide) rfl (Nat.le_of_ble_eq_true rfl) (by omega) (by omega) (by omega) (s_mX8_goesWell hS h) (fun r18 I17 J9 h => ?_)
          obtain ⟨rfl, h⟩ := h
          refine V_if_eq 91 dX8_rewrite_84 rfl (fun hc => ?_) (fun hc => ?_)
          · replace h := h.1 hc
            refine V_iconst (v := 0) dX8_rewrite_91 (by decide) ?_
            exact V_iret dX8_rewrite_92 rfl (by omega) (by omega) ⟨_, rfl, rfl, hA, hE, h⟩
          · replace h := h.2 hc
            refine V_iload_n dX8_rewrite_87 rfl rfl ?_
            refine V_goto 92 dX8_rewrite_88 rfl ?_
            exact V_iret dX8_rewrite_92 rfl (by omega) (by omega) ⟨_, rfl, rfl, hA, hE, h⟩
        · replace h := h.2 hc
          refine V_iconst (v := 2) dX8_rewrite_76 (by decide) ?_
          refine V_goto 81 dX8_rewrite_77 rfl ?_
          refine V_callVi (st := []) [.int 2] dX8_rewrite_81 ok_mX8_goesWell rfl ml_RX8_112 in_mX8_goesWell se_mX8_goesWell (hS.n 51 rfl) (hS.k 51 8 rfl) (by decide) rfl (Nat.le_of_ble_eq_true rfl) (by omega) (by omega) (by omega) (s_mX8_goesWell hS h) (fun r20 I19 J9 h => ?_)
          obtain ⟨rfl, h⟩ := h
          refine V_if_eq 91 dX8_rewrite_84 rfl (fun hc => ?_) (fun hc => ?_)
          · replace h := h.1 hc
            refine V_iconst (v := 0) dX8_rewrite_91 (by decide) ?_
            exact V_iret dX8_rewrite_92 rfl (by omega) (by omega) ⟨_, rfl, rfl, hA, hE, h⟩
          · replace h := h.2 hc
            refine V_iload_n dX8_rewrite_87 rfl rfl ?_
            refine V_goto 92 dX8_rewrite_88 rfl ?_
            exact V_iret dX8_rewrite_92 rfl (by omega) (by omega) ⟨_, rfl, rfl, hA, hE, h⟩
    · replace h := h.2 hc
      refine V_iconst (v := 0) dX8_rewrite_20 (by decide) ?_
      exact V_iret dX8_rewrite_21 rfl (by omega) (by omega) ⟨_, rfl, rfl, hA, hE, h⟩
  · replace h := h.2 hc
    refine V_iconst (v := 0) dX8_rewrite_9 (by decide) ?_
    refine V_goto 14 dX8_rewrite_10 rfl ?_
    refine V_callVi (st := []) [.int 0] dX8_rewrite_14 ok_mX8_goesWell rfl ml_RX8_112 in_mX8_goesWell se_mX8_goesWell (hS.n 51 rfl) (hS.k 51 8 rfl) (by decide) rfl (Nat.le_of_ble_eq_true rfl) (by omega) (by omega) (by omega) (s_mX8_goesWell hS h) (fun r22 I21 J9 h => ?_)
    obtain ⟨rfl, h⟩ := h
    refine V_if_ne 22 dX8_rewrite_17 rfl (fun hc => ?_) (fun hc => ?_)
    · replace h := h.1 hc
      refine V_aload_n dX8_rewrite_22 rfl rfl ?_
      refine V_iconst (v := 0) dX8_rewrite_23 (by decide) ?_
      refine V_puti dX8_rewrite_24 fl_RX8_208 rfl (hS.n 51 rfl) (hS.k 51 8 rfl) rfl rfl rfl ?_
      refine V_memI (fun I23 e_I23 => ?_)
      replace h := h I23 e_I23
      refine V_aload_n dX8_rewrite_27 rfl rfl ?_
      refine V_iconst (v := 0) dX8_rewrite_28 (by decide) ?_
      refine V_puti dX8_rewrite_29 fl_RX8_241 rfl (hS.n 51 rfl) (hS.k 51 8 rfl) rfl rfl rfl ?_
      refine V_memI (fun I24 e_I24 => ?_)
      replace h := h I24 e_I24
      refine V_aload_n dX8_rewrite_32 rfl rfl ?_
      refine V_geti dX8_rewrite_33 fl_RX8_118 (hS.n 51 rfl) (hS.k 51 8 rfl) rfl ?_
      refine V_topi (fun v25 e_v25 => ?_)
      replace h := h v25 e_v25
      refine V_istore_n (lo2 := [(2, .int v25), (0, .ref 51), (1, .int a1)]) dX8_rewrite_36 rfl (by decide) rfl ?_
      refine V_aload_n dX8_rewrite_37 rfl rfl ?_
      refine V_iconst (v := 0) dX8_rewrite_38 (by decide) ?_
      refine V_puti dX8_rewrite_39 fl_RX8_228 rfl (hS.n 51 rfl) (hS.k 51 8 rfl) rfl (q_nz (by decide)) (q_fz (by decide)) ?_
      refine V_memI (fun I26 e_I26 => ?_)
      replace h := h I26 e_I26
      refine V_aload_n dX8_rewrite_42 rfl rfl ?_
      refine V_iload_n dX8_rewrite_43 rfl rfl ?_
      refine V_iconst (v := (-1)) dX8_rewrite_44 (by decide) ?_
      obtain ⟨c2, s2, hcc2, hss2, h⟩ := h
      refine V_callVa (st := []) [.int a1, .int (-1)] dX8_rewrite_45 ok_mX8_finished rfl ml_RX8_238 in_mX8_finished se_mX8_finished (hS.n 51 rfl) (hS.k 51 8 rfl) (by decide) rfl (Nat.le_of_ble_eq_true rfl) (by omega) hcc2 hss2 (q_vb80 hS rfl) (q_vb80 hS rfl) (s_mX8_finished 26 _ _ _ _ _ _ _ _ hA h) (fun r27 S28 I29 hA9 hE9 h => ?_)
      replace hE9 := hE.tr hE9
      clear hA hE hS
      have hA := hA9
      have hE := hE9
      have hS := hA.1
      refine V_istore_n (lo2 := [(3, .int r27), (2, .int v25), (0, .ref 51), (1, .int a1)]) dX8_rewrite_48 rfl (by decide) rfl ?_
      refine V_aload_n dX8_rewrite_49 rfl rfl ?_
      refine V_aload_n dX8_rewrite_50 rfl rfl ?_
      refine V_geti dX8_rewrite_51 fl_RX8_228 (hS.n 51 rfl) (hS.k 51 8 rfl) rfl ?_
      refine V_if_eq 61 dX8_rewrite_54 rfl (fun hc => ?_) (fun hc => ?_)
      · replace h := h.1 hc
        refine V_aload_n dX8_rewrite_61 rfl rfl ?_
        refine V_geti dX8_rewrite_62 fl_RX8_118 (hS.n 51 rfl) (hS.k 51 8 rfl) rfl ?_
        refine V_puti dX8_rewrite_65 fl_RX8_118 rfl (hS.n 51 rfl) (hS.k 51 8 rfl) rfl rfl rfl ?_
        refine V_memI (fun I30 e_I30 => ?_)
        replace h := h I30 e_I30
        refine V_aload_n dX8_rewrite_68 rfl rfl ?_
        refine V_aload_n dX8_rewrite_69 rfl rfl ?_
        refine V_geti dX8_rewrite_70 fl_RX8_228 (hS.n 51 rfl) (hS.k 51 8 rfl) rfl ?_
        refine V_if_eq 80 dX8_rewrite_73 rfl (fun hc => ?_) (fun hc => ?_)
        · replace h := h.1 hc
          refine V_iconst (v := 0) dX8_rewrite_80 (by decide) ?_
          refine V_callVi (st := []) [.int 0] dX8_rewrite_81 ok_mX8_goesWell rfl ml_RX8_112 in_mX8_goesWell se_mX8_goesWell (hS.n 51 rfl) (hS.k 51 8 rfl) (by decide) rfl (Nat.le_of_ble_eq_true rfl) (by omega) (by omega) (by omega) (s_mX8_goesWell hS h) (fun r32 I31 J9 h => ?_)
          obtain ⟨rfl, h⟩ := h
          refine V_if_eq 91 dX8_rewrite_84 rfl (fun hc => ?_) (fun hc => ?_)
          · replace h := h.1 hc
            refine V_iconst (v := 0) dX8_rewrite_91 (by decide) ?_
            exact V_iret dX8_rewrite_92 rfl (by omega) (by omega) ⟨_, rfl, rfl, hA, hE, h⟩
          · replace h := h.2 hc
            refine V_iload_n dX8_rewrite_87 rfl rfl ?_
            refine V_goto 92 dX8_rewrite_88 rfl ?_
            exact V_iret dX8_rewrite_92 rfl (by omega) (by omega) ⟨_, rfl, rfl, hA, hE, h⟩
        · replace h := h.2 hc
          refine V_iconst (v := 2) dX8_rewrite_76 (by decide) ?_
          refine V_goto 81 dX8_rewrite_77 rfl ?_
          refine V_callVi (st := []) [.int 2] dX8_rewrite_81 ok_mX8_goesWell rfl ml_RX8_112 in_mX8_goesWell se_mX8_goesWell (hS.n 51 rfl) (hS.k 51 8 rfl) (by decide) rfl (Nat.le_of_ble_eq_true rfl) (by omega) (by omega) (by omega) (s_mX8_goesWell hS h) (fun r34 I33 J9 h => ?_)
          obtain ⟨rfl, h⟩ := h
          refine V_if_eq 91 dX8_rewrite_84 rfl (fun hc => ?_) (fun hc => ?_)
          · replace h := h.1 hc
            refine V_iconst (v := 0) dX8_rewrite_91 (by decide) ?_
            exact V_iret dX8_rewrite_92 rfl (by omega) (by omega) ⟨_, rfl, rfl, hA, hE, h⟩
          · replace h := h.2 hc
            refine V_iload_n dX8_rewrite_87 rfl rfl ?_
            refine V_goto 92 dX8_rewrite_88 rfl ?_
            exact V_iret dX8_rewrite_92 rfl (by omega) (by omega) ⟨_, rfl, rfl, hA, hE, h⟩
      · replace h := h.2 hc
        refine V_iload_n dX8_rewrite_57 rfl rfl ?_
        refine V_goto 65 dX8_rewrite_58 rfl ?_
        refine V_puti dX8_rewrite_65 fl_RX8_118 rfl (hS.n 51 rfl) (hS.k 51 8 rfl) rfl rfl rfl ?_
        refine V_memI (fun I35 e_I35 => ?_)
        replace h := h I35 e_I35
        refine V_aload_n dX8_rewrite_68 rfl rfl ?_
        refine V_aload_n dX8_rewrite_69 rfl rfl ?_
        refine V_geti dX8_rewrite_70 fl_RX8_228 (hS.n 51 rfl) (hS.k 51 8 rfl) rfl ?_
        refine V_if_eq 80 dX8_rewrite_73 rfl (fun hc => ?_) (fun hc => ?_)
        · replace h := h.1 hc
          refine V_iconst (v := 0) dX8_rewrite_80 (by decide) ?_
          refine V_callVi (st := []) [.int 0] dX8_rewrite_81 ok_mX8_goesWell rfl ml_RX8_112 in_mX8_goesWell se_mX8_goesWell (hS.n 51 rfl) (hS.k 51 8 rfl) (by decide) rfl (Nat.le_of_ble_eq_true rfl) (by omega) (by omega) (by omega) (s_mX8_goesWell hS h) (fun r37 I36 J9 h => ?_)
          obtain ⟨rfl, h⟩ := h
          refine V_if_eq 91 dX8_rewrite_84 rfl (fun hc => ?_) (fun hc => ?_)
          · replace h := h.1 hc
            refine V_iconst (v := 0) dX8_rewrite_91 (by decide) ?_
            exact V_iret dX8_rewrite_92 rfl (by omega) (by omega) ⟨_, rfl, rfl, hA, hE, h⟩
          · replace h := h.2 hc
            refine V_iload_n dX8_rewrite_87 rfl rfl ?_
            refine V_goto 92 dX8_rewrite_88 rfl ?_
            exact V_iret dX8_rewrite_92 rfl (by omega) (by omega) ⟨_, rfl, rfl, hA, hE, h⟩
        · replace h := h.2 hc
          refine V_iconst (v := 2) dX8_rewrite_76 (by decide) ?_
          refine V_goto 81 dX8_rewrite_77 rfl ?_
          refine V_callVi (st := []) [.int 2] dX8_rewrite_81 ok_mX8_goesWell rfl ml_RX8_112 in_mX8_goesWell se_mX8_goesWell (hS.n 51 rfl) (hS.k 51 8 rfl) (by decide) rfl (Nat.le_of_ble_eq_true rfl) (by omega) (by omega) (by omega) (s_mX8_goesWell hS h) (fun r39 I38 J9 h => ?_)
          obtain ⟨rfl, h⟩ := h
          refine V_if_eq 91 dX8_rewrite_84 rfl (fun hc => ?_) (fun hc => ?_)
          · replace h := h.1 hc
            refine V_iconst (v := 0) dX8_rewrite_91 (by decide) ?_
            exact V_iret dX8_rewrite_92 rfl (by omega) (by omega) ⟨_, rfl, rfl, hA, hE, h⟩
          · replace h := h.2 hc
            refine V_iload_n dX8_rewrite_87 rfl rfl ?_
            refine V_goto 92 dX8_rewrite_88 rfl ?_
            exact V_iret dX8_rewrite_92 rfl (by omega) (by omega) ⟨_, rfl, rfl, hA, hE, h⟩
    · replace h := h.2 hc
      refine V_iconst (v := 0) dX8_rewrite_20 (by decide) ?_
      exact V_iret dX8_rewrite_21 rfl (by omega) (by omega) ⟨_, rfl, rfl, hA, hE, h⟩
