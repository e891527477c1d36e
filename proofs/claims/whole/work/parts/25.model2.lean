def wX8_giveBag_80 (a1 : Int32) (post : QI → Prop) : Nat → Int32 → Int32 → Int32 → Int32 → Int32 → QI → Prop
  | 0, _, _, _, _, _, _ => False
  | n + 1, x2, x3, x4, x5, x6, I => (vp_in x2 24 ∧ ((x5 = 0 → ((((I 64 (x2).toNatClampNeg) + 0) ≤ x6 → post I) ∧ (¬ ((I 64 (x2).toNatClampNeg) + 0) ≤ x6 → (vp_in x6 400 ∧ ((¬ x4 = 2 → ((¬ (I 68 (x6).toNatClampNeg) = 0 → (∀ v5 : Int32, v5 = (x6 + 1) → (wX8_giveBag_80 a1 post n x2 x3 x4 x5 v5 I))) ∧ ((I 68 (x6).toNatClampNeg) = 0 → (vp_in x2 24 ∧ (((I 64 (x2).toNatClampNeg) ≤ x6 → (vp_in x2 24 ∧ (((I 64 (x2).toNatClampNeg) ≤ x6 → (vp_in x2 24 ∧ (wX8_copyRow a1 x3 (x6 - (I 64 (x2).toNatClampNeg)) 0 I (fun I6 => (vp_in a1 24 ∧ (vp_in a1 24 ∧ (∀ I7 : QI, I7 = q_u2 I6 64 (a1).toNatClampNeg ((I6 64 (a1).toNatClampNeg) + 1) → (∀ v8 : Int32, v8 = (x6 + 1) → (wX8_giveBag_80 a1 post n x2 x3 x4 x5 v8 I7))))))))) ∧ (¬ (I 64 (x2).toNatClampNeg) ≤ x6 → (wX8_copyRow a1 x3 x6 0 I (fun I9 => (vp_in a1 24 ∧ (vp_in a1 24 ∧ (∀ I10 : QI, I10 = q_u2 I9 64 (a1).toNatClampNeg ((I9 64 (a1).toNatClampNeg) + 1) → (∀ v11 : Int32, v11 = (x6 + 1) → (wX8_giveBag_80 a1 post n x2 x3 x4 x5 v11 I10))))))))))) ∧ (¬ (I 64 (x2).toNatClampNeg) ≤ x6 → (vp_in x2 24 ∧ (((I 64 (x2).toNatClampNeg) ≤ x6 → (vp_in x2 24 ∧ (wX8_copyRow a1 x2 (x6 - (I 64 (x2).toNatClampNeg)) 0 I (fun I12 => (vp_in a1 24 ∧ (vp_in a1 24 ∧ (∀ I13 : QI, I13 = q_u2 I12 64 (a1).toNatClampNeg ((I12 64 (a1).toNatClampNeg) + 1) → (∀ v14 : Int32, v14 = (x6 + 1) → (wX8_giveBag_80 a1 post n x2 x3 x4 x5 v14 I13))))))))) ∧ (¬ (I 64 (x2).toNatClampNeg) ≤ x6 → (wX8_copyRow a1 x2 x6 0 I (fun I15 => (vp_in a1 24 ∧ (vp_in a1 24 ∧ (∀ I16 : QI, I16 = q_u2 I15 64 (a1).toNatClampNeg ((I15 64 (a1).toNatClampNeg) + 1) → (∀ v17 : Int32, v17 = (x6 + 1) → (wX8_giveBag_80 a1 post n x2 x3 x4 x5 v17 I16)))))))))))))))) ∧ (x4 = 2 → ((¬ (I 68 (x6).toNatClampNeg) = 1 → (∀ v18 : Int32, v18 = (x6 + 1) → (wX8_giveBag_80 a1 post n x2 x3 x4 x5 v18 I))) ∧ ((I 68 (x6).toNatClampNeg) = 1 → (vp_in x2 24 ∧ (((I 64 (x2).toNatClampNeg) ≤ x6 → (vp_in x2 24 ∧ (((I 64 (x2).toNatClampNeg) ≤ x6 → (vp_in x2 24 ∧ (wX8_copyRow a1 x3 (x6 - (I 64 (x2).toNatClampNeg)) 0 I (fun I19 => (vp_in a1 24 ∧ (vp_in a1 24 ∧ (∀ I20 : QI, I20 = q_u2 I19 64 (a1).toNatClampNeg ((I19 64 (a1).toNatClampNeg) + 1) → (∀ v21 : Int32, v21 = (x6 + 1) → (wX8_giveBag_80 a1 post n x2 x3 x4 x5 v21 I20))))))))) ∧ (¬ (I 64 (x2).toNatClampNeg) ≤ x6 → (wX8_copyRow a1 x3 x6 0 I (fun I22 => (vp_in a1 24 ∧ (vp_in a1 24 ∧ (∀ I23 : QI, I23 = q_u2 I22 64 (a1).toNatClampNeg ((I22 64 (a1).toNatClampNeg) + 1) → (∀ v24 : Int32, v24 = (x6 + 1) → (wX8_giveBag_80 a1 post n x2 x3 x4 x5 v24 I23))))))))))) ∧ (¬ (I 64 (x2).toNatClampNeg) ≤ x6 → (vp_in x2 24 ∧ (((I 64 (x2).toNatClampNeg) ≤ x6 → (vp_in x2 24 ∧ (wX8_copyRow a1 x2 (x6 - (I 64 (x2).toNatClampNeg)) 0 I (fun I25 => (vp_in a1 24 ∧ (vp_in a1 24 ∧ (∀ I26 : QI, I26 = q_u2 I25 64 (a1).toNatClampNeg ((I25 64 (a1).toNatClampNeg) + 1) → (∀ v27 : Int32, v27 = (x6 + 1) → (wX8_giveBag_80 a1 post n x2 x3 x4 x5 v27 I26))))))))) ∧ (¬ (I 64 (x2).toNatClampNeg) ≤ x6 → (wX8_copyRow a1 x2 x6 0 I (fun I28 => (vp_in a1 24 ∧ (vp_in a1 24 ∧ (∀ I29 : QI, I29 = q_u2 I28 64 (a1).toNatClampNeg ((I28 64 (a1).toNatClampNeg) + 1) → (∀ v30 : Int32, v30 = (x6 + 1) → (wX8_giveBag_80 a1 post n x2 x3 x4 x5 v30 I29))))))))))))))))))))) ∧ (¬ x5 = 0 → (vp_in x3 24 ∧ ((((I 64 (x2).toNatClampNeg) + (I 64 (x3).toNatClampNeg)) ≤ x6 → post I) ∧ (¬ ((I 64 (x2).toNatClampNeg) + (I 64 (x3).toNatClampNeg)) ≤ x6 → (vp_in x6 400 ∧ ((¬ x4 = 2 → ((¬ (I 68 (x6).toNatClampNeg) = 0 → (∀ v31 : Int32, v31 = (x6 + 1) → (wX8_giveBag_80 a1 post n x2 x3 x4 x5 v31 I))) ∧ ((I 68 (x6).toNatClampNeg) = 0 → (vp_in x2 24 ∧ (((I 64 (x2).toNatClampNeg) ≤ x6 → (vp_in x2 24 ∧ (((I 64 (x2).toNatClampNeg) ≤ x6 → (vp_in x2 24 ∧ (wX8_copyRow a1 x3 (x6 - (I 64 (x2).toNatClampNeg)) 0 I (fun I32 => (vp_in a1 24 ∧ (vp_in a1 24 ∧ (∀ I33 : QI, I33 = q_u2 I32 64 (a1).toNatClampNeg ((I32 64 (a1).toNatClampNeg) + 1) → (∀ v34 : Int32, v34 = (x6 + 1) → (wX8_giveBag_80 a1 post n x2 x3 x4 x5 v34 I33))))))))) ∧ (¬ (I 64 (x2).toNatClampNeg) ≤ x6 → (wX8_copyRow a1 x3 x6 0 I (fun I35 => (vp_in a1 24 ∧ (vp_in a1 24 ∧ (∀ I36 : QI, I36 = q_u2 I35 64 (a1).toNatClampNeg ((I35 64 (a1).toNatClampNeg) + 1) → (∀ v37 : Int32, v37 = (x6 + 1) → (wX8_giveBag_80 a1 post n x2 x3 x4 x5 v37 I36))))))))))) ∧ (¬ (I 64 (x2).toNatClampNeg) ≤ x6 → (vp_in x2 24 ∧ (((I 64 (x2).toNatClampNeg) ≤ x6 → (vp_in x2 24 ∧ (wX8_copyRow a1 x2 (x6 - (I 64 (x2).toNatClampNeg)) 0 I (fun I38 => (vp_in a1 24 ∧ (vp_in a1 24 ∧ (∀ I39 : QI, I39 = q_u2 I38 64 (a1).toNatClampNeg ((I38 64 (a1).toNatClampNeg) + 1) → (∀ v40 : Int32, v40 = (x6 + 1) → (wX8_giveBag_80 a1 post n x2 x3 x4 x5 v40 I39))))))))) ∧ (¬ (I 64 (x2).toNatClampNeg) ≤ x6 → (wX8_copyRow a1 x2 x6 0 I (fun I41 => (vp_in a1 24 ∧ (vp_in a1 24 ∧ (∀ I42 : QI, I42 = q_u2 I41 64 (a1).toNatClampNeg ((I41 64 (a1).toNatClampNeg) + 1) → (∀ v43 : Int32, v43 = (x6 + 1) → (wX8_giveBag_80 a1 post n x2 x3 x4 x5 v43 I42)))))))))))))))) ∧ (x4 = 2 → ((¬ (I 68 (x6).toNatClampNeg) = 1 → (∀ v44 : Int32, v44 = (x6 + 1) → (wX8_giveBag_80 a1 post n x2 x3 x4 x5 v44 I))) ∧ ((I 68 (x6).toNatClampNeg) = 1 → (vp_in x2 24 ∧ (((I 64 (x2).toNatClampNeg) ≤ x6 → (vp_in x2 24 ∧ (((I 64 (x2).toNatClampNeg) ≤ x6 → (vp_in x2 24 ∧ (wX8_copyRow a1 x3 (x6 - (I 64 (x2).toNatClampNeg)) 0 I (fun I45 => (vp_in a1 24 ∧ (vp_in a1 24 ∧ (∀ I46 : QI, I46 = q_u2 I45 64 (a1).toNatClampNeg ((I45 64 (a1).toNatClampNeg) + 1) → (∀ v47 : Int32, v47 = (x6 + 1) → (wX8_giveBag_80 a1 post n x2 x3 x4 x5 v47 I46))))))))) ∧ (¬ (I 64 (x2).toNatClampNeg) ≤ x6 → (wX8_copyRow a1 x3 x6 0 I (fun I48 => (vp_in a1 24 ∧ (vp_in a1 24 ∧ (∀ I49 : QI, I49 = q_u2 I48 64 (a1).toNatClampNeg ((I48 64 (a1).toNatClampNeg) + 1) → (∀ v50 : Int32, v50 = (x6 + 1) → (wX8_giveBag_80 a1 post n x2 x3 x4 x5 v50 I49))))))))))) ∧ (¬ (I 64 (x2).toNatClampNeg) ≤ x6 → (vp_in x2 24 ∧ (((I 64 (x2).toNatClampNeg) ≤ x6 → (vp_in x2 24 ∧ (wX8_copyRow a1 x2 (x6 - (I 64 (x2).toNatClampNeg)) 0 I (fun I51 => (vp_in a1 24 ∧ (vp_in a1 24 ∧ (∀ I52 : QI, I52 = q_u2 I51 64 (a1).toNatClampNeg ((I51 64 (a1).toNatClampNeg) + 1) → (∀ v53 : Int32, v53 = (x6 + 1) → (wX8_giveBag_80 a1 post n x2 x3 x4 x5 v53 I52))))))))) ∧ (¬ (I 64 (x2).toNatClampNeg) ≤ x6 → (wX8_copyRow a1 x2 x6 0 I (fun I54 => (vp_in a1 24 ∧ (vp_in a1 24 ∧ (∀ I55 : QI, I55 = q_u2 I54 64 (a1).toNatClampNeg ((I54 64 (a1).toNatClampNeg) + 1) → (∀ v56 : Int32, v56 = (x6 + 1) → (wX8_giveBag_80 a1 post n x2 x3 x4 x5 v56 I55))))))))))))))))))))))))
set_option maxRecDepth 100000 in
set_option maxHeartbeats 4000000 in
theorem swX8_giveBag_80 {X : QX} {S : QS} {a1 : Int32} {J : QJ} {post : QI → Prop} (hS : Sh S) : ∀ (f : Nat) (x2 : Int32) (x3 : Int32) (x4 : Int32) (x5 : Int32) (x6 : Int32) (I : QI), wX8_giveBag_80 a1 post f x2 x3 x4 x5 x6 I → V X mX8_giveBag 3 0 0 (q_Pv S (fun I2 J2 => J = J2 ∧ post I2)) 80 [(0, .ref 51), (1, .int a1), (2, .int x2), (3, .int x3), (4, .int x4), (5, .int x5), (6, .int x6)] [] S I J 0 0 := by
  intro f
  induction f with
  | zero => intro x2 x3 x4 x5 x6 I h; exact h.elim
  | succ n ih =>
    intro x2 x3 x4 x5 x6 I h
    replace h : (vp_in x2 24 ∧ ((x5 = 0 → ((((I 64 (x2).toNatClampNeg) + 0) ≤ x6 → post I) ∧ (¬ ((I 64 (x2).toNatClampNeg) + 0) ≤ x6 → (vp_in x6 400 ∧ ((¬ x4 = 2 → ((¬ (I 68 (x6).toNatClampNeg) = 0 → (∀ v5 : Int32, v5 = (x6 + 1) → (wX8_giveBag_80 a1 post n x2 x3 x4 x5 v5 I))) ∧ ((I 68 (x6).toNatClampNeg) = 0 → (vp_in x2 24 ∧ (((I 64 (x2).toNatClampNeg) ≤ x6 → (vp_in x2 24 ∧ (((I 64 (x2).toNatClampNeg) ≤ x6 → (vp_in x2 24 ∧ (wX8_copyRow a1 x3 (x6 - (I 64 (x2).toNatClampNeg)) 0 I (fun I6 => (vp_in a1 24 ∧ (vp_in a1 24 ∧ (∀ I7 : QI, I7 = q_u2 I6 64 (a1).toNatClampNeg ((I6 64 (a1).toNatClampNeg) + 1) → (∀ v8 : Int32, v8 = (x6 + 1) → (wX8_giveBag_80 a1 post n x2 x3 x4 x5 v8 I7))))))))) ∧ (¬ (I 64 (x2).toNatClampNeg) ≤ x6 → (wX8_copyRow a1 x3 x6 0 I (fun I9 => (vp_in a1 24 ∧ (vp_in a1 24 ∧ (∀ I10 : QI, I10 = q_u2 I9 64 (a1).toNatClampNeg ((I9 64 (a1).toNatClampNeg) + 1) → (∀ v11 : Int32, v11 = (x6 + 1) → (wX8_giveBag_80 a1 post n x2 x3 x4 x5 v11 I10))))))))))) ∧ (¬ (I 64 (x2).toNatClampNeg) ≤ x6 → (vp_in x2 24 ∧ (((I 64 (x2).toNatClampNeg) ≤ x6 → (vp_in x2 24 ∧ (wX8_copyRow a1 x2 (x6 - (I 64 (x2).toNatClampNeg)) 0 I (fun I12 => (vp_in a1 24 ∧ (vp_in a1 24 ∧ (∀ I13 : QI, I13 = q_u2 I12 64 (a1).toNatClampNeg ((I12 64 (a1).toNatClampNeg) + 1) → (∀ v14 : Int32, v14 = (x6 + 1) → (wX8_giveBag_80 a1 post n x2 x3 x4 x5 v14 I13))))))))) ∧ (¬ (I 64 (x2).toNatClampNeg) ≤ x6 → (wX8_copyRow a1 x2 x6 0 I (fun I15 => (vp_in a1 24 ∧ (vp_in a1 24 ∧ (∀ I16 : QI, I16 = q_u2 I15 64 (a1).toNatClampNeg ((I15 64 (a1).toNatClampNeg) + 1) → (∀ v17 : Int32, v17 = (x6 + 1) → (wX8_giveBag_80 a1 post n x2 x3 x4 x5 v17 I16)))))))))))))))) ∧ (x4 = 2 → ((¬ (I 68 (x6).toNatClampNeg) = 1 → (∀ v18 : Int32, v18 = (x6 + 1) → (wX8_giveBag_80 a1 post n x2 x3 x4 x5 v18 I))) ∧ ((I 68 (x6).toNatClampNeg) = 1 → (vp_in x2 24 ∧ (((I 64 (x2).toNatClampNeg) ≤ x6 → (vp_in x2 24 ∧ (((I 64 (x2).toNatClampNeg) ≤ x6 → (vp_in x2 24 ∧ (wX8_copyRow a1 x3 (x6 - (I 64 (x2).toNatClampNeg)) 0 I (fun I19 => (vp_in a1 24 ∧ (vp_in a1 24 ∧ (∀ I20 : QI, I20 = q_u2 I19 64 (a1).toNatClampNeg ((I19 64 (a1).toNatClampNeg) + 1) → (∀ v21 : Int32, v21 = (x6 + 1) → (wX8_giveBag_80 a1 post n x2 x3 x4 x5 v21 I20))))))))) ∧ (¬ (I 64 (x2).toNatClampNeg) ≤ x6 → (wX8_copyRow a1 x3 x6 0 I (fun I22 => (vp_in a1 24 ∧ (vp_in a1 24 ∧ (∀ I23 : QI, I23 = q_u2 I22 64 (a1).toNatClampNeg ((I22 64 (a1).toNatClampNeg) + 1) → (∀ v24 : Int32, v24 = (x6 + 1) → (wX8_giveBag_80 a1 post n x2 x3 x4 x5 v24 I23))))))))))) ∧ (¬ (I 64 (x2).toNatClampNeg) ≤ x6 → (vp_in x2 24 ∧ (((I 64 (x2).toNatClampNeg) ≤ x6 → (vp_in x2 24 ∧ (wX8_copyRow a1 x2 (x6 - (I 64 (x2).toNatClampNeg)) 0 I (fun I25 => (vp_in a1 24 ∧ (vp_in a1 24 ∧ (∀ I26 : QI, I26 = q_u2 I25 64 (a1).toNatClampNeg ((I25 64 (a1).toNatClampNeg) + 1) → (∀ v27 : Int32, v27 = (x6 + 1) → (wX8_giveBag_80 a1 post n x2 x3 x4 x5 v27 I26))))))))) ∧ (¬ (I 64 (x2).toNatClampNeg) ≤ x6 → (wX8_copyRow a1 x2 x6 0 I (fun I28 => (vp_in a1 24 ∧ (vp_in a1 24 ∧ (∀ I29 : QI, I29 = q_u2 I28 64 (a1).toNatClampNeg ((I28 64 (a1).toNatClampNeg) + 1) → (∀ v30 : Int32, v30 = (x6 + 1) → (wX8_giveBag_80 a1 post n x2 x3 x4 x5 v30 I29))))))))))))))))))))) ∧ (¬ x5 = 0 → (vp_in x3 24 ∧ ((((I 64 (x2).toNatClampNeg) + (I 64 (x3).toNatClampNeg)) ≤ x6 → post I) ∧ (¬ ((I 64 (x2).toNatClampNeg) + (I 64 (x3).toNatClampNeg)) ≤ x6 → (vp_in x6 400 ∧ ((¬ x4 = 2 → ((¬ (I 68 (x6).toNatClampNeg) = 0 → (∀ v31 : Int32, v31 = (x6 + 1) → (wX8_giveBag_80 a1 post n x2 x3 x4 x5 v31 I))) ∧ ((I 68 (x6).toNatClampNeg) = 0 → (vp_in x2 24 ∧ (((I 64 (x2).toNatClampNeg) ≤ x6 → (vp_in x2 24 ∧ (((I 64 (x2).toNatClampNeg) ≤ x6 → (vp_in x2 24 ∧ (wX8_copyRow a1 x3 (x6 - (I 64 (x2).toNatClampNeg)) 0 I (fun I32 => (vp_in a1 24 ∧ (vp_in a1 24 ∧ (∀ I33 : QI, I33 = q_u2 I32 64 (a1).toNatClampNeg ((I32 64 (a1).toNatClampNeg) + 1) → (∀ v34 : Int32, v34 = (x6 + 1) → (wX8_giveBag_80 a1 post n x2 x3 x4 x5 v34 I33))))))))) ∧ (¬ (I 64 (x2).toNatClampNeg) ≤ x6 → (wX8_copyRow a1 x3 x6 0 I (fun I35 => (vp_in a1 24 ∧ (vp_in a1 24 ∧ (∀ I36 : QI, I36 = q_u2 I35 64 (a1).toNatClampNeg ((I35 64 (a1).toNatClampNeg) + 1) → (∀ v37 : Int32, v37 = (x6 + 1) → (wX8_giveBag_80 a1 post n x2 x3 x4 x5 v37 I36))))))))))) ∧ (¬ (I 64 (x2).toNatClampNeg) ≤ x6 → (vp_in x2 24 ∧ (((I 64 (x2).toNatClampNeg) ≤ x6 → (vp_in x2 24 ∧ (wX8_copyRow a1 x2 (x6 - (I 64 (x2).toNatClampNeg)) 0 I (fun I38 => (vp_in a1 24 ∧ (vp_in a1 24 ∧ (∀ I39 : QI, I39 = q_u2 I38 64 (a1).toNatClampNeg ((I38 64 (a1).toNatClampNeg) + 1) → (∀ v40 : Int32, v40 = (x6 + 1) → (wX8_giveBag_80 a1 post n x2 x3 x4 x5 v40 I39))))))))) ∧ (¬ (I 64 (x2).toNatClampNeg) ≤ x6 → (wX8_copyRow a1 x2 x6 0 I (fun I41 => (vp_in a1 24 ∧ (vp_in a1 24 ∧ (∀ I42 : QI, I42 = q_u2 I41 64 (a1).toNatClampNeg ((I41 64 (a1).toNatClampNeg) + 1) → (∀ v43 : Int32, v43 = (x6 + 1) → (wX8_giveBag_80 a1 post n x2 x3 x4 x5 v43 I42)))))))))))))))) ∧ (x4 = 2 → ((¬ (I 68 (x6).toNatClampNeg) = 1 → (∀ v44 : Int32, v44 = (x6 + 1) → (wX8_giveBag_80 a1 post n x2 x3 x4 x5 v44 I))) ∧ ((I 68 (x6).toNatClampNeg) = 1 → (vp_in x2 24 ∧ (((I 64 (x2).toNatClampNeg) ≤ x6 → (vp_in x2 24 ∧ (((I 64 (x2).toNatClampNeg) ≤ x6 → (vp_in x2 24 ∧ (wX8_copyRow a1 x3 (x6 - (I 64 (x2).toNatClampNeg)) 0 I (fun I45 => (vp_in a1 24 ∧ (vp_in a1 24 ∧ (∀ I46 : QI, I46 = q_u2 I45 64 (a1).toNatClampNeg ((I45 64 (a1).toNatClampNeg) + 1) → (∀ v47 : Int32, v47 = (x6 + 1) → (wX8_giveBag_80 a1 post n x2 x3 x4 x5 v47 I46))))))))) ∧ (¬ (I 64 (x2).toNatClampNeg) ≤ x6 → (wX8_copyRow a1 x3 x6 0 I (fun I48 => (vp_in a1 24 ∧ (vp_in a1 24 ∧ (∀ I49 : QI, I49 = q_u2 I48 64 (a1).toNatClampNeg ((I48 64 (a1).toNatClampNeg) + 1) → (∀ v50 : Int32, v50 = (x6 + 1) → (wX8_giveBag_80 a1 post n x2 x3 x4 x5 v50 I49))))))))))) ∧ (¬ (I 64 (x2).toNatClampNeg) ≤ x6 → (vp_in x2 24 ∧ (((I 64 (x2).toNatClampNeg) ≤ x6 → (vp_in x2 24 ∧ (wX8_copyRow a1 x2 (x6 - (I 64 (x2).toNatClampNeg)) 0 I (fun I51 => (vp_in a1 24 ∧ (vp_in a1 24 ∧ (∀ I52 : QI, I52 = q_u2 I51 64 (a1).toNatClampNeg ((I51 64 (a1).toNatClampNeg) + 1) → (∀ v53 : Int32, v53 = (x6 + 1) → (wX8_giveBag_80 a1 post n x2 x3 x4 x5 v53 I52))))))))) ∧ (¬ (I 64 (x2).toNatClampNeg) ≤ x6 → (wX8_copyRow a1 x2 x6 0 I (fun I54 => (vp_in a1 24 ∧ (vp_in a1 24 ∧ (∀ I55 : QI, I55 = q_u2 I54 64 (a1).toNatClampNeg ((I54 64 (a1).toNatClampNeg) + 1) → (∀ v56 : Int32, v56 = (x6 + 1) → (wX8_giveBag_80 a1 post n x2 x3 x4 x5 v56 I55)))))))))))))))))))))))) := h
    refine V_iload dX8_giveBag_80 rfl ?_
    refine V_aload_n dX8_giveBag_82 rfl rfl ?_
    refine V_getr dX8_giveBag_83 fl_RX8_51 (hS.n 51 rfl) (hS.k 51 8 rfl) rfl (hS.r 51 18 64 rfl) ?_
    refine V_iload_n dX8_giveBag_86 rfl rfl ?_
    obtain ⟨hb, h⟩ := h
    refine V_iald dX8_giveBag_87 (hS.n 64 rfl) (hS.k 64 9 rfl) (by rw [(hS.z 64 24 rfl)]; exact hb) ?_
    refine V_iload dX8_giveBag_88 rfl ?_
    refine V_if_eq 102 dX8_giveBag_90 rfl (fun hc => ?_) (fun hc => ?_)
    · replace h := h.1 hc
      refine V_iconst (v := 0) dX8_giveBag_102 (by decide) ?_
      refine V_iadd dX8_giveBag_103 ?_
      refine V_icmp_ge 191 dX8_giveBag_104 rfl (fun hc => ?_) (fun hc => ?_)
      · replace h := h.1 hc
        exact V_vret dX8_giveBag_191 rfl (by decide) (by decide) ⟨rfl, rfl, rfl, h⟩
      · replace h := h.2 hc
        refine V_aload_n dX8_giveBag_107 rfl rfl ?_
        refine V_getr dX8_giveBag_108 fl_RX8_65 (hS.n 51 rfl) (hS.k 51 8 rfl) rfl (hS.r 51 22 68 rfl) ?_
        refine V_iload dX8_giveBag_111 rfl ?_
        obtain ⟨hb, h⟩ := h
        refine V_zald dX8_giveBag_113 (hS.n 68 rfl) (hS.k 68 11 rfl) (by rw [(hS.z 68 400 rfl)]; exact hb) ?_
        refine V_iload dX8_giveBag_114 rfl ?_
        refine V_iconst (v := 2) dX8_giveBag_116 (by decide) ?_
        refine V_icmp_ne 124 dX8_giveBag_117 rfl (fun hc => ?_) (fun hc => ?_)
        · replace h := h.1 hc
          refine V_iconst (v := 0) dX8_giveBag_124 (by decide) ?_
          refine V_icmp_ne 185 dX8_giveBag_125 rfl (fun hc => ?_) (fun hc => ?_)
          · replace h := h.1 hc
            obtain ⟨v5, e_v5⟩ : ∃ z : Int32, z = (x6 + 1) := ⟨_, rfl⟩
            replace h := h v5 e_v5
            refine V_iinc (lo2 := [(6, .int v5), (0, .ref 51), (1, .int a1), (2, .int x2), (3, .int x3), (4, .int x4), (5, .int x5)]) 6 dX8_giveBag_185 rfl (v := v5) (by rw [e_v5]; first | done | rfl) (by decide) rfl ?_
            refine V_goto 80 dX8_giveBag_188 rfl ?_
            refine V_sub (lo2 := [(0, .ref 51), (1, .int a1), (2, .int x2), (3, .int x3), (4, .int x4), (5, .int x5), (6, .int v5)]) [1, 2, 3, 4, 5, 6, 0] rfl ?_
            exact ih _ _ _ _ _ _ h
          · replace h := h.2 hc
            refine V_aload_n dX8_giveBag_128 rfl rfl ?_
            refine V_iload_n dX8_giveBag_129 rfl rfl ?_
            refine V_iload dX8_giveBag_130 rfl ?_
            refine V_aload_n dX8_giveBag_132 rfl rfl ?_
            refine V_getr dX8_giveBag_133 fl_RX8_51 (hS.n 51 rfl) (hS.k 51 8 rfl) rfl (hS.r 51 18 64 rfl) ?_
            refine V_iload_n dX8_giveBag_136 rfl rfl ?_
            obtain ⟨hb, h⟩ := h
            refine V_iald dX8_giveBag_137 (hS.n 64 rfl) (hS.k 64 9 rfl) (by rw [(hS.z 64 24 rfl)]; exact hb) ?_
            refine V_icmp_ge 145 dX8_giveBag_138 rfl (fun hc => ?_) (fun hc => ?_)
            · replace h := h.1 hc
              refine V_iload_n dX8_giveBag_145 rfl rfl ?_
              refine V_iload dX8_giveBag_146 rfl ?_
              refine V_aload_n dX8_giveBag_148 rfl rfl ?_
              refine V_getr dX8_giveBag_149 fl_RX8_51 (hS.n 51 rfl) (hS.k 51 8 rfl) rfl (hS.r 51 18 64 rfl) ?_
              refine V_iload_n dX8_giveBag_152 rfl rfl ?_
              obtain ⟨hb, h⟩ := h
              refine V_iald dX8_giveBag_153 (hS.n 64 rfl) (hS.k 64 9 rfl) (by rw [(hS.z 64 24 rfl)]; exact hb) ?_
              refine V_icmp_ge 162 dX8_giveBag_154 rfl (fun hc => ?_) (fun hc => ?_)
              · replace h := h.1 hc
                refine V_iload dX8_giveBag_162 rfl ?_
                refine V_aload_n dX8_giveBag_164 rfl rfl ?_
                refine V_getr dX8_giveBag_165 fl_RX8_51 (hS.n 51 rfl) (hS.k 51 8 rfl) rfl (hS.r 51 18 64 rfl) ?_
                refine V_iload_n dX8_giveBag_168 rfl rfl ?_
                obtain ⟨hb, h⟩ := h
                refine V_iald dX8_giveBag_169 (hS.n 64 rfl) (hS.k 64 9 rfl) (by rw [(hS.z 64 24 rfl)]; exact hb) ?_
                refine V_isub dX8_giveBag_170 ?_
                refine V_iconst (v := 0) dX8_giveBag_171 (by decide) ?_
                refine V_callVv (st := []) [.int a1, .int x3, .int (x6 - (I 64 (x2).toNatClampNeg)), .int 0] dX8_giveBag_172 ok_mX8_copyRow rfl ml_RX8_158 in_mX8_copyRow se_mX8_copyRow (hS.n 51 rfl) (hS.k 51 8 rfl) (by decide) rfl (Nat.le_of_ble_eq_true rfl) (by decide) (by decide) (by decide) (s_mX8_copyRow hS h) (fun I6 J9 h => ?_)
                obtain ⟨rfl, h⟩ := h
                refine V_aload_n dX8_giveBag_175 rfl rfl ?_
                refine V_getr dX8_giveBag_176 fl_RX8_51 (hS.n 51 rfl) (hS.k 51 8 rfl) rfl (hS.r 51 18 64 rfl) ?_
                refine V_iload_n dX8_giveBag_179 rfl rfl ?_
                refine V_dup2 dX8_giveBag_180 rfl rfl ?_
                obtain ⟨hb, h⟩ := h
                refine V_iald dX8_giveBag_181 (hS.n 64 rfl) (hS.k 64 9 rfl) (by rw [(hS.z 64 24 rfl)]; exact hb) ?_
                refine V_iconst (v := 1) dX8_giveBag_182 (by decide) ?_
                refine V_iadd dX8_giveBag_183 ?_
                obtain ⟨hb, h⟩ := h
                refine V_iast dX8_giveBag_184 (hS.n 64 rfl) (hS.k 64 9 rfl) (by rw [(hS.z 64 24 rfl)]; exact hb) ?_
                refine V_memI (fun I7 e_I7 => ?_)
                replace h := h I7 e_I7
                obtain ⟨v8, e_v8⟩ : ∃ z : Int32, z = (x6 + 1) := ⟨_, rfl⟩
                replace h := h v8 e_v8
                refine V_iinc (lo2 := [(6, .int v8), (0, .ref 51), (1, .int a1), (2, .int x2), (3, .int x3), (4, .int x4), (5, .int x5)]) 6 dX8_giveBag_185 rfl (v := v8) (by rw [e_v8]; first | done | rfl) (by decide) rfl ?_
                refine V_goto 80 dX8_giveBag_188 rfl ?_
                refine V_sub (lo2 := [(0, .ref 51), (1, .int a1), (2, .int x2), (3, .int x3), (4, .int x4), (5, .int x5), (6, .int v8)]) [1, 2, 3, 4, 5, 6, 0] rfl ?_
                exact ih _ _ _ _ _ _ h
              · replace h := h.2 hc
                refine V_iload dX8_giveBag_157 rfl ?_
                refine V_goto 171 dX8_giveBag_159 rfl ?_
                refine V_iconst (v := 0) dX8_giveBag_171 (by decide) ?_
                refine V_callVv (st := []) [.int a1, .int x3, .int x6, .int 0] dX8_giveBag_172 ok_mX8_copyRow rfl ml_RX8_158 in_mX8_copyRow se_mX8_copyRow (hS.n 51 rfl) (hS.k 51 8 rfl) (by decide) rfl (Nat.le_of_ble_eq_true rfl) (by decide) (by decide) (by decide) (s_mX8_copyRow hS h) (fun I9 J9 h => ?_)
                obtain ⟨rfl, h⟩ := h
                refine V_aload_n dX8_giveBag_175 rfl rfl ?_
                refine V_getr dX8_giveBag_176 fl_RX8_51 (hS.n 51 rfl) (hS.k 51 8 rfl) rfl (hS.r 51 18 64 rfl) ?_
                refine V_iload_n dX8_giveBag_179 rfl rfl ?_
                refine V_dup2 dX8_giveBag_180 rfl rfl ?_
                obtain ⟨hb, h⟩ := h
                refine V_iald dX8_giveBag_181 (hS.n 64 rfl) (hS.k 64 9 rfl) (by rw [(hS.z 64 24 rfl)]; exact hb) ?_
                refine V_iconst (v := 1) dX8_giveBag_182 (by decide) ?_
                refine V_iadd dX8_giveBag_183 ?_
                obtain ⟨hb, h⟩ := h
                refine V_iast dX8_giveBag_184 (hS.n 64 rfl) (hS.k 64 9 rfl) (by rw [(hS.z 64 24 rfl)]; exact hb) ?_
                refine V_memI (fun I10 e_I10 => ?_)
                replace h := h I10 e_I10
                obtain ⟨v11, e_v11⟩ : ∃ z : Int32, z = (x6 + 1) := ⟨_, rfl⟩
                replace h := h v11 e_v11
                refine V_iinc (lo2 := [(6, .int v11), (0, .ref 51), (1, .int a1), (2, .int x2), (3, .int x3), (4, .int x4), (5, .int x5)]) 6 dX8_giveBag_185 rfl (v := v11) (by rw [e_v11]; first | done | rfl) (by decide) rfl ?_
                refine V_goto 80 dX8_giveBag_188 rfl ?_
                refine V_sub (lo2 := [(0, .ref 51), (1, .int a1), (2, .int x2), (3, .int x3), (4, .int x4), (5, .int x5), (6, .int v11)]) [1, 2, 3, 4, 5, 6, 0] rfl ?_
                exact ih _ _ _ _ _ _ h
            · replace h := h.2 hc
              refine V_iload_n dX8_giveBag_141 rfl rfl ?_
              refine V_goto 146 dX8_giveBag_142 rfl ?_
              refine V_iload dX8_giveBag_146 rfl ?_
              refine V_aload_n dX8_giveBag_148 rfl rfl ?_
              refine V_getr dX8_giveBag_149 fl_RX8_51 (hS.n 51 rfl) (hS.k 51 8 rfl) rfl (hS.r 51 18 64 rfl) ?_
              refine V_iload_n dX8_giveBag_152 rfl rfl ?_
              obtain ⟨hb, h⟩ := h
              refine V_iald dX8_giveBag_153 (hS.n 64 rfl) (hS.k 64 9 rfl) (by rw [(hS.z 64 24 rfl)]; exact hb) ?_
              refine V_icmp_ge 162 dX8_giveBag_154 rfl (fun hc => ?_) (fun hc => ?_)
              · replace h := h.1 hc
                refine V_iload dX8_giveBag_162 rfl ?_
                refine V_aload_n dX8_giveBag_164 rfl rfl ?_
                refine V_getr dX8_giveBag_165 fl_RX8_51 (hS.n 51 rfl) (hS.k 51 8 rfl) rfl (hS.r 51 18 64 rfl) ?_
                refine V_iload_n dX8_giveBag_168 rfl rfl ?_
                obtain ⟨hb, h⟩ := h
                refine V_iald dX8_giveBag_169 (hS.n 64 rfl) (hS.k 64 9 rfl) (by rw [(hS.z 64 24 rfl)]; exact hb) ?_
                refine V_isub dX8_giveBag_170 ?_
                refine V_iconst (v := 0) dX8_giveBag_171 (by decide) ?_
                refine V_callVv (st := []) [.int a1, .int x2, .int (x6 - (I 64 (x2).toNatClampNeg)), .int 0] dX8_giveBag_172 ok_mX8_copyRow rfl ml_RX8_158 in_mX8_copyRow se_mX8_copyRow (hS.n 51 rfl) (hS.k 51 8 rfl) (by decide) rfl (Nat.le_of_ble_eq_true rfl) (by decide) (by decide) (by decide) (s_mX8_copyRow hS h) (fun I12 J9 h => ?_)
                obtain ⟨rfl, h⟩ := h
                refine V_aload_n dX8_giveBag_175 rfl rfl ?_
                refine V_getr dX8_giveBag_176 fl_RX8_51 (hS.n 51 rfl) (hS.k 51 8 rfl) rfl (hS.r 51 18 64 rfl) ?_
                refine V_iload_n dX8_giveBag_179 rfl rfl ?_
                refine V_dup2 dX8_giveBag_180 rfl rfl ?_
                obtain ⟨hb, h⟩ := h
                refine V_iald dX8_giveBag_181 (hS.n 64 rfl) (hS.k 64 9 rfl) (by rw [(hS.z 64 24 rfl)]; exact hb) ?_
                refine V_iconst (v := 1) dX8_giveBag_182 (by decide) ?_
                refine V_iadd dX8_giveBag_183 ?_
                obtain ⟨hb, h⟩ := h
                refine V_iast dX8_giveBag_184 (hS.n 64 rfl) (hS.k 64 9 rfl) (by rw [(hS.z 64 24 rfl)]; exact hb) ?_
                refine V_memI (fun I13 e_I13 => ?_)
                replace h := h I13 e_I13
                obtain ⟨v14, e_v14⟩ : ∃ z : Int32, z = (x6 + 1) := ⟨_, rfl⟩
                replace h := h v14 e_v14
                refine V_iinc (lo2 := [(6, .int v14), (0, .ref 51), (1, .int a1), (2, .int x2), (3, .int x3), (4, .int x4), (5, .int x5)]) 6 dX8_giveBag_185 rfl (v := v14) (by rw [e_v14]; first | done | rfl) (by decide) rfl ?_
                refine V_goto 80 dX8_giveBag_188 rfl ?_
                refine V_sub (lo2 := [(0, .ref 51), (1, .int a1), (2, .int x2), (3, .int x3), (4, .int x4), (5, .int x5), (6, .int v14)]) [1, 2, 3, 4, 5, 6, 0] rfl ?_
                exact ih _ _ _ _ _ _ h
              · replace h := h.2 hc
                refine V_iload dX8_giveBag_157 rfl ?_
                refine V_goto 171 dX8_giveBag_159 rfl ?_
                refine V_iconst (v := 0) dX8_giveBag_171 (by decide) ?_
                refine V_callVv (st := []) [.int a1, .int x2, .int x6, .int 0] dX8_giveBag_172 ok_mX8_copyRow rfl ml_RX8_158 in_mX8_copyRow se_mX8_copyRow (hS.n 51 rfl) (hS.k 51 8 rfl) (by decide) rfl (Nat.le_of_ble_eq_true rfl) (by decide) (by decide) (by decide) (s_mX8_copyRow hS h) (fun I15 J9 h => ?_)
                obtain ⟨rfl, h⟩ := h
                refine V_aload_n dX8_giveBag_175 rfl rfl ?_
                refine V_getr dX8_giveBag_176 fl_RX8_51 (hS.n 51 rfl) (hS.k 51 8 rfl) rfl (hS.r 51 18 64 rfl) ?_
                refine V_iload_n dX8_giveBag_179 rfl rfl ?_
                refine V_dup2 dX8_giveBag_180 rfl rfl ?_
                obtain ⟨hb, h⟩ := h
                refine V_iald dX8_giveBag_181 (hS.n 64 rfl) (hS.k 64 9 rfl) (by rw [(hS.z 64 24 rfl)]; exact hb) ?_
                refine V_iconst (v := 1) dX8_giveBag_182 (by decide) ?_
                refine V_iadd dX8_giveBag_183 ?_
                obtain ⟨hb, h⟩ := h
                refine V_iast dX8_giveBag_184 (hS.n 64 rfl) (hS.k 64 9 rfl) (by rw [(hS.z 64 24 rfl)]; exact hb) ?_
                refine V_memI (fun I16 e_I16 => ?_)
                replace h := h I16 e_I16
                obtain ⟨v17, e_v17⟩ : ∃ z : Int32, z = (x6 + 1) := ⟨_, rfl⟩
                replace h := h v17 e_v17
                refine V_iinc (lo2 := [(6, .int v17), (0, .ref 51), (1, .int a1), (2, .int x2), (3, .int x3), (4, .int x4), (5, .int x5)]) 6 dX8_giveBag_185 rfl (v := v17) (by rw [e_v17]; first | done | rfl) (by decide) rfl ?_
                refine V_goto 80 dX8_giveBag_188 rfl ?_
                refine V_sub (lo2 := [(0, .ref 51), (1, .int a1), (2, .int x2), (3, .int x3), (4, .int x4), (5, .int x5), (6, .int v17)]) [1, 2, 3, 4, 5, 6, 0] rfl ?_
                exact ih _ _ _ _ _ _ h
        · replace h := h.2 hc
          refine V_iconst (v := 1) dX8_giveBag_120 (by decide) ?_
          refine V_goto 125 dX8_giveBag_121 rfl ?_
          refine V_icmp_ne 185 dX8_giveBag_125 rfl (fun hc => ?_) (fun hc => ?_)
          · replace h := h.1 hc
            obtain ⟨v18, e_v18⟩ : ∃ z : Int32, z = (x6 + 1) := ⟨_, rfl⟩
            replace h := h v18 e_v18
            refine V_iinc (lo2 := [(6, .int v18), (0, .ref 51), (1, .int a1), (2, .int x2), (3, .int x3), (4, .int x4), (5, .int x5)]) 6 dX8_giveBag_185 rfl (v := v18) (by rw [e_v18]; first | done | rfl) (by decide) rfl ?_
            refine V_goto 80 dX8_giveBag_188 rfl ?_
            refine V_sub (lo2 := [(0, .ref 51), (1, .int a1), (2, .int x2), (3, .int x3), (4, .int x4), (5, .int x5), (6, .int v18)]) [1, 2, 3, 4, 5, 6, 0] rfl ?_
            exact ih _ _ _ _ _ _ h
          · replace h := h.2 hc
            refine V_aload_n dX8_giveBag_128 rfl rfl ?_
            refine V_iload_n dX8_giveBag_129 rfl rfl ?_
            refine V_iload dX8_giveBag_130 rfl ?_
            refine V_aload_n dX8_giveBag_132 rfl rfl ?_
            refine V_getr dX8_giveBag_133 fl_RX8_51 (hS.n 51 rfl) (hS.k 51 8 rfl) rfl (hS.r 51 18 64 rfl) ?_
            refine V_iload_n dX8_giveBag_136 rfl rfl ?_
            obtain ⟨hb, h⟩ := h
            refine V_iald dX8_giveBag_137 (hS.n 64 rfl) (hS.k 64 9 rfl) (by rw [(hS.z 64 24 rfl)]; exact hb) ?_
            refine V_icmp_ge 145 dX8_giveBag_138 rfl (fun hc => ?_) (fun hc => ?_)
            · replace h := h.1 hc
              refine V_iload_n dX8_giveBag_145 rfl rfl ?_
              refine V_iload dX8_giveBag_146 rfl ?_
              refine V_aload_n dX8_giveBag_148 rfl rfl ?_
              refine V_getr dX8_giveBag_149 fl_RX8_51 (hS.n 51 rfl) (hS.k 51 8 rfl) rfl (hS.r 51 18 64 rfl) ?_
              refine V_iload_n dX8_giveBag_152 rfl rfl ?_
              obtain ⟨hb, h⟩ := h
              refine V_iald dX8_giveBag_153 (hS.n 64 rfl) (hS.k 64 9 rfl) (by rw [(hS.z 64 24 rfl)]; exact hb) ?_
              refine V_icmp_ge 162 dX8_giveBag_154 rfl (fun hc => ?_) (fun hc => ?_)
              · replace h := h.1 hc
                refine V_iload dX8_giveBag_162 rfl ?_
                refine V_aload_n dX8_giveBag_164 rfl rfl ?_
                refine V_getr dX8_giveBag_165 fl_RX8_51 (hS.n 51 rfl) (hS.k 51 8 rfl) rfl (hS.r 51 18 64 rfl) ?_
                refine V_iload_n dX8_giveBag_168 rfl rfl ?_
                obtain ⟨hb, h⟩ := h
                refine V_iald dX8_giveBag_169 (hS.n 64 rfl) (hS.k 64 9 rfl) (by rw [(hS.z 64 24 rfl)]; exact hb) ?_
                refine V_isub dX8_giveBag_170 ?_
                refine V_iconst (v := 0) dX8_giveBag_171 (by decide) ?_
                refine V_callVv (st := []) [.int a1, .int x3, .int (x6 - (I 64 (x2).toNatClampNeg)), .int 0] dX8_giveBag_172 ok_mX8_copyRow rfl ml_RX8_158 in_mX8_copyRow se_mX8_copyRow (hS.n 51 rfl) (hS.k 51 8 rfl) (by decide) rfl (Nat.le_of_ble_eq_true rfl) (by decide) (by decide) (by decide) (s_mX8_copyRow hS h) (fun I19 J9 h => ?_)
                obtain ⟨rfl, h⟩ := h
                refine V_aload_n dX8_giveBag_175 rfl rfl ?_
                refine V_getr dX8_giveBag_176 fl_RX8_51 (hS.n 51 rfl) (hS.k 51 8 rfl) rfl (hS.r 51 18 64 rfl) ?_
                refine V_iload_n dX8_giveBag_179 rfl rfl ?_
                refine V_dup2 dX8_giveBag_180 rfl rfl ?_
                obtain ⟨hb, h⟩ := h
                refine V_iald dX8_giveBag_181 (hS.n 64 rfl) (hS.k 64 9 rfl) (by rw [(hS.z 64 24 rfl)]; exact hb) ?_
                refine V_iconst (v := 1) dX8_giveBag_182 (by decide) ?_
                refine V_iadd dX8_giveBag_183 ?_
                obtain ⟨hb, h⟩ := h
                refine V_iast dX8_giveBag_184 (hS.n 64 rfl) (hS.k 64 9 rfl) (by rw [(hS.z 64 24 rfl)]; exact hb) ?_
                refine V_memI (fun I20 e_I20 => ?_)
                replace h := h I20 e_I20
                obtain ⟨v21, e_v21⟩ : ∃ z : Int32, z = (x6 + 1) := ⟨_, rfl⟩
                replace h := h v21 e_v21
                refine V_iinc (lo2 := [(6, .int v21), (0, .ref 51), (1, .int a1), (2, .int x2), (3, .int x3), (4, .int x4), (5, .int x5)]) 6 dX8_giveBag_185 rfl (v := v21) (by rw [e_v21]; first | done | rfl) (by decide) rfl ?_
                refine V_goto 80 dX8_giveBag_188 rfl ?_
                refine V_sub (lo2 := [(0, .ref 51), (1, .int a1), (2, .int x2), (3, .int x3), (4, .int x4), (5, .int x5), (6, .int v21)]) [1, 2, 3, 4, 5, 6, 0] rfl ?_
                exact ih _ _ _ _ _ _ h
              · replace h := h.2 hc
                refine V_iload dX8_giveBag_157 rfl ?_
                refine V_goto 171 dX8_giveBag_159 rfl ?_
                refine V_iconst (v := 0) dX8_giveBag_171 (by decide) ?_
                refine V_callVv (st := []) [.int a1, .int x3, .int x6, .int 0] dX8_giveBag_172 ok_mX8_copyRow rfl ml_RX8_158 in_mX8_copyRow se_mX8_copyRow (hS.n 51 rfl) (hS.k 51 8 rfl) (by decide) rfl (Nat.le_of_ble_eq_true rfl) (by decide) (by decide) (by decide) (s_mX8_copyRow hS h) (fun I22 J9 h => ?_)
                obtain ⟨rfl, h⟩ := h
                refine V_aload_n dX8_giveBag_175 rfl rfl ?_
                refine V_getr dX8_giveBag_176 fl_RX8_51 (hS.n 51 rfl) (hS.k 51 8 rfl) rfl (hS.r 51 18 64 rfl) ?_
                refine V_iload_n dX8_giveBag_179 rfl rfl ?_
                refine V_dup2 dX8_giveBag_180 rfl rfl ?_
                obtain ⟨hb, h⟩ := h
                refine V_iald dX8_giveBag_181 (hS.n 64 rfl) (hS.k 64 9 rfl) (by rw [(hS.z 64 24 rfl)]; exact hb) ?_
                refine V_iconst (v := 1) dX8_giveBag_182 (by decide) ?_
                refine V_iadd dX8_giveBag_183 ?_
                obtain ⟨hb, h⟩ := h
                refine V_iast dX8_giveBag_184 (hS.n 64 rfl) (hS.k 64 9 rfl) (by rw [(hS.z 64 24 rfl)]; exact hb) ?_
                refine V_memI (fun I23 e_I23 => ?_)
                replace h := h I23 e_I23
                obtain ⟨v24, e_v24⟩ : ∃ z : Int32, z = (x6 + 1) := ⟨_, rfl⟩
                replace h := h v24 e_v24
                refine V_iinc (lo2 := [(6, .int v24), (0, .ref 51), (1, .int a1), (2, .int x2), (3, .int x3), (4, .int x4), (5, .int x5)]) 6 dX8_giveBag_185 rfl (v := v24) (by rw [e_v24]; first | done | rfl) (by decide) rfl ?_
                refine V_goto 80 dX8_giveBag_188 rfl ?_
                refine V_sub (lo2 := [(0, .ref 51), (1, .int a1), (2, .int x2), (3, .int x3), (4, .int x4), (5, .int x5), (6, .int v24)]) [1, 2, 3, 4, 5, 6, 0] rfl ?_
                exact ih _ _ _ _ _ _ h
            · replace h := h.2 hc
              refine V_iload_n dX8_giveBag_141 rfl rfl ?_
              refine V_goto 146 dX8_giveBag_142 rfl ?_
              refine V_iload dX8_giveBag_146 rfl ?_
              refine V_aload_n dX8_giveBag_148 rfl rfl ?_
              refine V_getr dX8_giveBag_149 fl_RX8_51 (hS.n 51 rfl) (hS.k 51 8 rfl) rfl (hS.r 51 18 64 rfl) ?_
              refine V_iload_n dX8_giveBag_152 rfl rfl ?_
              obtain ⟨hb, h⟩ := h
              refine V_iald dX8_giveBag_153 (hS.n 64 rfl) (hS.k 64 9 rfl) (by rw [(hS.z 64 24 rfl)]; exact hb) ?_
              refine V_icmp_ge 162 dX8_giveBag_154 rfl (fun hc => ?_) (fun hc => ?_)
              · replace h := h.1 hc
                refine V_iload dX8_giveBag_162 rfl ?_
                refine V_aload_n dX8_giveBag_164 rfl rfl ?_
                refine V_getr dX8_giveBag_165 fl_RX8_51 (hS.n 51 rfl) (hS.k 51 8 rfl) rfl (hS.r 51 18 64 rfl) ?_
                refine V_iload_n dX8_giveBag_168 rfl rfl ?_
                obtain ⟨hb, h⟩ := h
                refine V_iald dX8_giveBag_169 (hS.n 64 rfl) (hS.k 64 9 rfl) (by rw [(hS.z 64 24 rfl)]; exact hb) ?_
                refine V_isub dX8_giveBag_170 ?_
                refine V_iconst (v := 0) dX8_giveBag_171 (by decide) ?_
                refine V_callVv (st := []) [.int a1, .int x2, .int (x6 - (I 64 (x2).toNatClampNeg)), .int 0] dX8_giveBag_172 ok_mX8_copyRow rfl ml_RX8_158 in_mX8_copyRow se_mX8_copyRow (hS.n 51 rfl) (hS.k 51 8 rfl) (by decide) rfl (Nat.le_of_ble_eq_true rfl) (by decide) (by decide) (by decide) (s_mX8_copyRow hS h) (fun I25 J9 h => ?_)
                obtain ⟨rfl, h⟩ := h
                refine V_aload_n dX8_giveBag_175 rfl rfl ?_
                refine V_getr dX8_giveBag_176 fl_RX8_51 (hS.n 51 rfl) (hS.k 51 8 rfl) rfl (hS.r 51 18 64 rfl) ?_
                refine V_iload_n dX8_giveBag_179 rfl rfl ?_
                refine V_dup2 dX8_giveBag_180 rfl rfl ?_
                obtain ⟨hb, h⟩ := h
                refine V_iald dX8_giveBag_181 (hS.n 64 rfl) (hS.k 64 9 rfl) (by rw [(hS.z 64 24 rfl)]; exact hb) ?_
                refine V_iconst (v := 1) dX8_giveBag_182 (by decide) ?_
                refine V_iadd dX8_giveBag_183 ?_
                obtain ⟨hb, h⟩ := h
                refine V_iast dX8_giveBag_184 (hS.n 64 rfl) (hS.k 64 9 rfl) (by rw [(hS.z 64 24 rfl)]; exact hb) ?_
                refine V_memI (fun I26 e_I26 => ?_)
                replace h := h I26 e_I26
                obtain ⟨v27, e_v27⟩ : ∃ z : Int32, z = (x6 + 1) := ⟨_, rfl⟩
                replace h := h v27 e_v27
                refine V_iinc (lo2 := [(6, .int v27), (0, .ref 51), (1, .int a1), (2, .int x2), (3, .int x3), (4, .int x4), (5, .int x5)]) 6 dX8_giveBag_185 rfl (v := v27) (by rw [e_v27]; first | done | rfl) (by decide) rfl ?_
                refine V_goto 80 dX8_giveBag_188 rfl ?_
                refine V_sub (lo2 := [(0, .ref 51), (1, .int a1), (2, .int x2), (3, .int x3), (4, .int x4), (5, .int x5), (6, .int v27)]) [1, 2, 3, 4, 5, 6, 0] rfl ?_
                exact ih _ _ _ _ _ _ h
              · replace h := h.2 hc
                refine V_iload dX8_giveBag_157 rfl ?_
                refine V_goto 171 dX8_giveBag_159 rfl ?_
                refine V_iconst (v := 0) dX8_giveBag_171 (by decide) ?_
                refine V_callVv (st := []) [.int a1, .int x2, .int x6, .int 0] dX8_giveBag_172 ok_mX8_copyRow rfl ml_RX8_158 in_mX8_copyRow se_mX8_copyRow (hS.n 51 rfl) (hS.k 51 8 rfl) (by decide) rfl (Nat.le_of_ble_eq_true rfl) (by decide) (by decide) (by decide) (s_mX8_copyRow hS h) (fun I28 J9 h => ?_)
                obtain ⟨rfl, h⟩ := h
                refine V_aload_n dX8_giveBag_175 rfl rfl ?_
                refine V_getr dX8_giveBag_176 fl_RX8_51 (hS.n 51 rfl) (hS.k 51 8 rfl) rfl (hS.r 51 18 64 rfl) ?_
                refine V_iload_n dX8_giveBag_179 rfl rfl ?_
                refine V_dup2 dX8_giveBag_180 rfl rfl ?_
                obtain ⟨hb, h⟩ := h
                refine V_iald dX8_giveBag_181 (hS.n 64 rfl) (hS.k 64 9 rfl) (by rw [(hS.z 64 24 rfl)]; exact hb) ?_
                refine V_iconst (v := 1) dX8_giveBag_182 (by decide) ?_
                refine V_iadd dX8_giveBag_183 ?_
                obtain ⟨hb, h⟩ := h
                refine V_iast dX8_giveBag_184 (hS.n 64 rfl) (hS.k 64 9 rfl) (by rw [(hS.z 64 24 rfl)]; exact hb) ?_
                refine V_memI (fun I29 e_I29 => ?_)
                replace h := h I29 e_I29
                obtain ⟨v30, e_v30⟩ : ∃ z : Int32, z = (x6 + 1) := ⟨_, rfl⟩
                replace h := h v30 e_v30
                refine V_iinc (lo2 := [(6, .int v30), (0, .ref 51), (1, .int a1), (2, .int x2), (3, .int x3), (4, .int x4), (5, .int x5)]) 6 dX8_giveBag_185 rfl (v := v30) (by rw [e_v30]; first | done | rfl) (by decide) rfl ?_
                refine V_goto 80 dX8_giveBag_188 rfl ?_
                refine V_sub (lo2 := [(0, .ref 51), (1, .int a1), (2, .int x2), (3, .int x3), (4, .int x4), (5, .int x5), (6, .int v30)]) [1, 2, 3, 4, 5, 6, 0] rfl ?_
                exact ih _ _ _ _ _ _ h
    · replace h := h.2 hc
      refine V_aload_n dX8_giveBag_93 rfl rfl ?_
      refine V_getr dX8_giveBag_94 fl_RX8_51 (hS.n 51 rfl) (hS.k 51 8 rfl) rfl (hS.r 51 18 64 rfl) ?_
      refine V_iload_n dX8_giveBag_97 rfl rfl ?_
      obtain ⟨hb, h⟩ := h
      refine V_iald dX8_giveBag_98 (hS.n 64 rfl) (hS.k 64 9 rfl) (by rw [(hS.z 64 24 rfl)]; exact hb) ?_
      refine V_goto 103 dX8_giveBag_99 rfl ?_
      refine V_iadd dX8_giveBag_103 ?_
      refine V_icmp_ge 191 dX8_giveBag_104 rfl (fun hc => ?_) (fun hc => ?_)
      · replace h := h.1 hc
        exact V_vret dX8_giveBag_191 rfl (by decide) (by decide) ⟨rfl, rfl, rfl, h⟩
      · replace h := h.2 hc
        refine V_aload_n dX8_giveBag_107 rfl rfl ?_
        refine V_getr dX8_giveBag_108 fl_RX8_65 (hS.n 51 rfl) (hS.k 51 8 rfl) rfl (hS.r 51 22 68 rfl) ?_
        refine V_iload dX8_giveBag_111 rfl ?_
        obtain ⟨hb, h⟩ := h
        refine V_zald dX8_giveBag_113 (hS.n 68 rfl) (hS.k 68 11 rfl) (by rw [(hS.z 68 400 rfl)]; exact hb) ?_
        refine V_iload dX8_giveBag_114 rfl ?_
        refine V_iconst (v := 2) dX8_giveBag_116 (by decide) ?_
        refine V_icmp_ne 124 dX8_giveBag_117 rfl (fun hc => ?_) (fun hc => ?_)
        · replace h := h.1 hc
          refine V_iconst (v := 0) dX8_giveBag_124 (by decide) ?_
          refine V_icmp_ne 185 dX8_giveBag_125 rfl (fun hc => ?_) (fun hc => ?_)
          · replace h := h.1 hc
            obtain ⟨v31, e_v31⟩ : ∃ z : Int32, z = (x6 + 1) := ⟨_, rfl⟩
            replace h := h v31 e_v31
            refine V_iinc (lo2 := [(6, .int v31), (0, .ref 51), (1, .int a1), (2, .int x2), (3, .int x3), (4, .int x4), (5, .int x5)]) 6 dX8_giveBag_185 rfl (v := v31) (by rw [e_v31]; first | done | rfl) (by decide) rfl ?_
            refine V_goto 80 dX8_giveBag_188 rfl ?_
            refine V_sub (lo2 := [(0, .ref 51), (1, .int a1), (2, .int x2), (3, .int x3), (4, .int x4), (5, .int x5), (6, .int v31)]) [1, 2, 3, 4, 5, 6, 0] rfl ?_
            exact ih _ _ _ _ _ _ h
          · replace h := h.2 hc
            refine V_aload_n dX8_giveBag_128 rfl rfl ?_
            refine V_iload_n dX8_giveBag_129 rfl rfl ?_
            refine V_iload dX8_giveBag_130 rfl ?_
            refine V_aload_n dX8_giveBag_132 rfl rfl ?_
            refine V_getr dX8_giveBag_133 fl_RX8_51 (hS.n 51 rfl) (hS.k 51 8 rfl) rfl (hS.r 51 18 64 rfl) ?_
            refine V_iload_n dX8_giveBag_136 rfl rfl ?_
            obtain ⟨hb, h⟩ := h
            refine V_iald dX8_giveBag_137 (hS.n 64 rfl) (hS.k 64 9 rfl) (by rw [(hS.z 64 24 rfl)]; exact hb) ?_
            refine V_icmp_ge 145 dX8_giveBag_138 rfl (fun hc => ?_) (fun hc => ?_)
            · replace h := h.1 hc
              refine V_iload_n dX8_giveBag_145 rfl rfl ?_
              refine V_iload dX8_giveBag_146 rfl ?_
              refine V_aload_n dX8_giveBag_148 rfl rfl ?_
              refine V_getr dX8_giveBag_149 fl_RX8_51 (hS.n 51 rfl) (hS.k 51 8 rfl) rfl (hS.r 51 18 64 rfl) ?_
              refine V_iload_n dX8_giveBag_152 rfl rfl ?_
              obtain ⟨hb, h⟩ := h
              refine V_iald dX8_giveBag_153 (hS.n 64 rfl) (hS.k 64 9 rfl) (by rw [(hS.z 64 24 rfl)]; exact hb) ?_
              refine V_icmp_ge 162 dX8_giveBag_154 rfl (fun hc => ?_) (fun hc => ?_)
              · replace h := h.1 hc
                refine V_iload dX8_giveBag_162 rfl ?_
                refine V_aload_n dX8_giveBag_164 rfl rfl ?_
                refine V_getr dX8_giveBag_165 fl_RX8_51 (hS.n 51 rfl) (hS.k 51 8 rfl) rfl (hS.r 51 18 64 rfl) ?_
                refine V_iload_n dX8_giveBag_168 rfl rfl ?_
                obtain ⟨hb, h⟩ := h
                refine V_iald dX8_giveBag_169 (hS.n 64 rfl) (hS.k 64 9 rfl) (by rw [(hS.z 64 24 rfl)]; exact hb) ?_
                refine V_isub dX8_giveBag_170 ?_
                refine V_iconst (v := 0) dX8_giveBag_171 (by decide) ?_
                refine V_callVv (st := []) [.int a1, .int x3, .int (x6 - (I 64 (x2).toNatClampNeg)), .int 0] dX8_giveBag_172 ok_mX8_copyRow rfl ml_RX8_158 in_mX8_copyRow se_mX8_copyRow (hS.n 51 rfl) (hS.k 51 8 rfl) (by decide) rfl (Nat.le_of_ble_eq_true rfl) (by decide) (by decide) (by decide) (s_mX8_copyRow hS h) (fun I32 J9 h => ?_)
                obtain ⟨rfl, h⟩ := h
                refine V_aload_n dX8_giveBag_175 rfl rfl ?_
                refine V_getr dX8_giveBag_176 fl_RX8_51 (hS.n 51 rfl) (hS.k 51 8 rfl) rfl (hS.r 51 18 64 rfl) ?_
                refine V_iload_n dX8_giveBag_179 rfl rfl ?_
                refine V_dup2 dX8_giveBag_180 rfl rfl ?_
                obtain ⟨hb, h⟩ := h
                refine V_iald dX8_giveBag_181 (hS.n 64 rfl) (hS.k 64 9 rfl) (by rw [(hS.z 64 24 rfl)]; exact hb) ?_
                refine V_iconst (v := 1) dX8_giveBag_182 (by decide) ?_
                refine V_iadd dX8_giveBag_183 ?_
                obtain ⟨hb, h⟩ := h
                refine V_iast dX8_giveBag_184 (hS.n 64 rfl) (hS.k 64 9 rfl) (by rw [(hS.z 64 24 rfl)]; exact hb) ?_
                refine V_memI (fun I33 e_I33 => ?_)
                replace h := h I33 e_I33
                obtain ⟨v34, e_v34⟩ : ∃ z : Int32, z = (x6 + 1) := ⟨_, rfl⟩
                replace h := h v34 e_v34
                refine V_iinc (lo2 := [(6, .int v34), (0, .ref 51), (1, .int a1), (2, .int x2), (3, .int x3), (4, .int x4), (5, .int x5)]) 6 dX8_giveBag_185 rfl (v := v34) (by rw [e_v34]; first | done | rfl) (by decide) rfl ?_
                refine V_goto 80 dX8_giveBag_188 rfl ?_
                refine V_sub (lo2 := [(0, .ref 51), (1, .int a1), (2, .int x2), (3, .int x3), (4, .int x4), (5, .int x5), (6, .int v34)]) [1, 2, 3, 4, 5, 6, 0] rfl ?_
                exact ih _ _ _ _ _ _ h
              · replace h := h.2 hc
                refine V_iload dX8_giveBag_157 rfl ?_
                refine V_goto 171 dX8_giveBag_159 rfl ?_
                refine V_iconst (v := 0) dX8_giveBag_171 (by decide) ?_
                refine V_callVv (st := []) [.int a1, .int x3, .int x6, .int 0] dX8_giveBag_172 ok_mX8_copyRow rfl ml_RX8_158 in_mX8_copyRow se_mX8_copyRow (hS.n 51 rfl) (hS.k 51 8 rfl) (by decide) rfl (Nat.le_of_ble_eq_true rfl) (by decide) (by decide) (by decide) (s_mX8_copyRow hS h) (fun I35 J9 h => ?_)
                obtain ⟨rfl, h⟩ := h
                refine V_aload_n dX8_giveBag_175 rfl rfl ?_
                refine V_getr dX8_giveBag_176 fl_RX8_51 (hS.n 51 rfl) (hS.k 51 8 rfl) rfl (hS.r 51 18 64 rfl) ?_
                refine V_iload_n dX8_giveBag_179 rfl rfl ?_
                refine V_dup2 dX8_giveBag_180 rfl rfl ?_
                obtain ⟨hb, h⟩ := h
                refine V_iald dX8_giveBag_181 (hS.n 64 rfl) (hS.k 64 9 rfl) (by rw [(hS.z 64 24 rfl)]; exact hb) ?_
                refine V_iconst (v := 1) dX8_giveBag_182 (by decide) ?_
                refine V_iadd dX8_giveBag_183 ?_
                obtain ⟨hb, h⟩ := h
                refine V_iast dX8_giveBag_184 (hS.n 64 rfl) (hS.k 64 9 rfl) (by rw [(hS.z 64 24 rfl)]; exact hb) ?_
                refine V_memI (fun I36 e_I36 => ?_)
                replace h := h I36 e_I36
                obtain ⟨v37, e_v37⟩ : ∃ z : Int32, z = (x6 + 1) := ⟨_, rfl⟩
                replace h := h v37 e_v37
                refine V_iinc (lo2 := [(6, .int v37), (0, .ref 51), (1, .int a1), (2, .int x2), (3, .int x3), (4, .int x4), (5, .int x5)]) 6 dX8_giveBag_185 rfl (v := v37) (by rw [e_v37]; first | done | rfl) (by decide) rfl ?_
                refine V_goto 80 dX8_giveBag_188 rfl ?_
                refine V_sub (lo2 := [(0, .ref 51), (1, .int a1), (2, .int x2), (3, .int x3), (4, .int x4), (5, .int x5), (6, .int v37)]) [1, 2, 3, 4, 5, 6, 0] rfl ?_
                exact ih _ _ _ _ _ _ h
            · replace h := h.2 hc
              refine V_iload_n dX8_giveBag_141 rfl rfl ?_
              refine V_goto 146 dX8_giveBag_142 rfl ?_
              refine V_iload dX8_giveBag_146 rfl ?_
              refine V_aload_n dX8_giveBag_148 rfl rfl ?_
              refine V_getr dX8_giveBag_149 fl_RX8_51 (hS.n 51 rfl) (hS.k 51 8 rfl) rfl (hS.r 51 18 64 rfl) ?_
              refine V_iload_n dX8_giveBag_152 rfl rfl ?_
              obtain ⟨hb, h⟩ := h
              refine V_iald dX8_giveBag_153 (hS.n 64 rfl) (hS.k 64 9 rfl) (by rw [(hS.z 64 24 rfl)]; exact hb) ?_
              refine V_icmp_ge 162 dX8_giveBag_154 rfl (fun hc => ?_) (fun hc => ?_)
              · replace h := h.1 hc
                refine V_iload dX8_giveBag_162 rfl ?_
                refine V_aload_n dX8_giveBag_164 rfl rfl ?_
                refine V_getr dX8_giveBag_165 fl_RX8_51 (hS.n 51 rfl) (hS.k 51 8 rfl) rfl (hS.r 51 18 64 rfl) ?_
                refine V_iload_n dX8_giveBag_168 rfl rfl ?_
                obtain ⟨hb, h⟩ := h
                refine V_iald dX8_giveBag_169 (hS.n 64 rfl) (hS.k 64 9 rfl) (by rw [(hS.z 64 24 rfl)]; exact hb) ?_
                refine V_isub dX8_giveBag_170 ?_
                refine V_iconst (v := 0) dX8_giveBag_171 (by decide) ?_
                refine V_callVv (st := []) [.int a1, .int x2, .int (x6 - (I 64 (x2).toNatClampNeg)), .int 0] dX8_giveBag_172 ok_mX8_copyRow rfl ml_RX8_158 in_mX8_copyRow se_mX8_copyRow (hS.n 51 rfl) (hS.k 51 8 rfl) (by decide) rfl (Nat.le_of_ble_eq_true rfl) (by decide) (by decide) (by decide) (s_mX8_copyRow hS h) (fun I38 J9 h => ?_)
                obtain ⟨rfl, h⟩ := h
                refine V_aload_n dX8_giveBag_175 rfl rfl ?_
                refine V_getr dX8_giveBag_176 fl_RX8_51 (hS.n 51 rfl) (hS.k 51 8 rfl) rfl (hS.r 51 18 64 rfl) ?_
                refine V_iload_n dX8_giveBag_179 rfl rfl ?_
                refine V_dup2 dX8_giveBag_180 rfl rfl ?_
                obtain ⟨hb, h⟩ := h
                refine V_iald dX8_giveBag_181 (hS.n 64 rfl) (hS.k 64 9 rfl) (by rw [(hS.z 64 24 rfl)]; exact hb) ?_
                refine V_iconst (v := 1) dX8_giveBag_182 (by decide) ?_
                refine V_iadd dX8_giveBag_183 ?_
                obtain ⟨hb, h⟩ := h
                refine V_iast dX8_giveBag_184 (hS.n 64 rfl) (hS.k 64 9 rfl) (by rw [(hS.z 64 24 rfl)]; exact hb) ?_
                refine V_memI (fun I39 e_I39 => ?_)
                replace h := h I39 e_I39
                obtain ⟨v40, e_v40⟩ : ∃ z : Int32, z = (x6 + 1) := ⟨_, rfl⟩
                replace h := h v40 e_v40
                refine V_iinc (lo2 := [(6, .int v40), (0, .ref 51), (1, .int a1), (2, .int x2), (3, .int x3), (4, .int x4), (5, .int x5)]) 6 dX8_giveBag_185 rfl (v := v40) (by rw [e_v40]; first | done | rfl) (by decide) rfl ?_
                refine V_goto 80 dX8_giveBag_188 rfl ?_
                refine V_sub (lo2 := [(0, .ref 51), (1, .int a1), (2, .int x2), (3, .int x3), (4, .int x4), (5, .int x5), (6, .int v40)]) [1, 2, 3, 4, 5, 6, 0] rfl ?_
                exact ih _ _ _ _ _ _ h
              · replace h := h.2 hc
                refine V_iload dX8_giveBag_157 rfl ?_
                refine V_goto 171 dX8_giveBag_159 rfl ?_
                refine V_iconst (v := 0) dX8_giveBag_171 (by decide) ?_
                refine V_callVv (st := []) [.int a1, .int x2, .int x6, .int 0] dX8_giveBag_172 ok_mX8_copyRow rfl ml_RX8_158 in_mX8_copyRow se_mX8_copyRow (hS.n 51 rfl) (hS.k 51 8 rfl) (by decide) rfl (Nat.le_of_ble_eq_true rfl) (by decide) (by decide) (by decide) (s_mX8_copyRow hS h) (fun I41 J9 h => ?_)
                obtain ⟨rfl, h⟩ := h
                refine V_aload_n dX8_giveBag_175 rfl rfl ?_
                refine V_getr dX8_giveBag_176 fl_RX8_51 (hS.n 51 rfl) (hS.k 51 8 rfl) rfl (hS.r 51 18 64 rfl) ?_
                refine V_iload_n dX8_giveBag_179 rfl rfl ?_
                refine V_dup2 dX8_giveBag_180 rfl rfl ?_
                obtain ⟨hb, h⟩ := h
                refine V_iald dX8_giveBag_181 (hS.n 64 rfl) (hS.k 64 9 rfl) (by rw [(hS.z 64 24 rfl)]; exact hb) ?_
                refine V_iconst (v := 1) dX8_giveBag_182 (by decide) ?_
                refine V_iadd dX8_giveBag_183 ?_
                obtain ⟨hb, h⟩ := h
                refine V_iast dX8_giveBag_184 (hS.n 64 rfl) (hS.k 64 9 rfl) (by rw [(hS.z 64 24 rfl)]; exact hb) ?_
                refine V_memI (fun I42 e_I42 => ?_)
                replace h := h I42 e_I42
                obtain ⟨v43, e_v43⟩ : ∃ z : Int32, z = (x6 + 1) := ⟨_, rfl⟩
                replace h := h v43 e_v43
                refine V_iinc (lo2 := [(6, .int v43), (0, .ref 51), (1, .int a1), (2, .int x2), (3, .int x3), (4, .int x4), (5, .int x5)]) 6 dX8_giveBag_185 rfl (v := v43) (by rw [e_v43]; first | done | rfl) (by decide) rfl ?_
                refine V_goto 80 dX8_giveBag_188 rfl ?_
                refine V_sub (lo2 := [(0, .ref 51), (1, .int a1), (2, .int x2), (3, .int x3), (4, .int x4), (5, .int x5), (6, .int v43)]) [1, 2, 3, 4, 5, 6, 0] rfl ?_
                exact ih _ _ _ _ _ _ h
        · replace h := h.2 hc
          refine V_iconst (v := 1) dX8_giveBag_120 (by decide) ?_
          refine V_goto 125 dX8_giveBag_121 rfl ?_
          refine V_icmp_ne 185 dX8_giveBag_125 rfl (fun hc => ?_) (fun hc => ?_)
          · replace h := h.1 hc
            obtain ⟨v44, e_v44⟩ : ∃ z : Int32, z = (x6 + 1) := ⟨_, rfl⟩
            replace h := h v44 e_v44
            refine V_iinc (lo2 := [(6, .int v44), (0, .ref 51), (1, .int a1), (2, .int x2), (3, .int x3), (4, .int x4), (5, .int x5)]) 6 dX8_giveBag_185 rfl (v := v44) (by rw [e_v44]; first | done | rfl) (by decide) rfl ?_
            refine V_goto 80 dX8_giveBag_188 rfl ?_
            refine V_sub (lo2 := [(0, .ref 51), (1, .int a1), (2, .int x2), (3, .int x3), (4, .int x4), (5, .int x5), (6, .int v44)]) [1, 2, 3, 4, 5, 6, 0] rfl ?_
            exact ih _ _ _ _ _ _ h
          · replace h := h.2 hc
            refine V_aload_n dX8_giveBag_128 rfl rfl ?_
            refine V_iload_n dX8_giveBag_129 rfl rfl ?_
            refine V_iload dX8_giveBag_130 rfl ?_
            refine V_aload_n dX8_giveBag_132 rfl rfl ?_
            refine V_getr dX8_giveBag_133 fl_RX8_51 (hS.n 51 rfl) (hS.k 51 8 rfl) rfl (hS.r 51 18 64 rfl) ?_
            refine V_iload_n dX8_giveBag_136 rfl rfl ?_
            obtain ⟨hb, h⟩ := h
            refine V_iald dX8_giveBag_137 (hS.n 64 rfl) (hS.k 64 9 rfl) (by rw [(hS.z 64 24 rfl)]; exact hb) ?_
            refine V_icmp_ge 145 dX8_giveBag_138 rfl (fun hc => ?_) (fun hc => ?_)
            · replace h := h.1 hc
              refine V_iload_n dX8_giveBag_145 rfl rfl ?_
              refine V_iload dX8_giveBag_146 rfl ?_
              refine V_aload_n dX8_giveBag_148 rfl rfl ?_
              refine V_getr dX8_giveBag_149 fl_RX8_51 (hS.n 51 rfl) (hS.k 51 8 rfl) rfl (hS.r 51 18 64 rfl) ?_
              refine V_iload_n dX8_giveBag_152 rfl rfl ?_
              obtain ⟨hb, h⟩ := h
              refine V_iald dX8_giveBag_153 (hS.n 64 rfl) (hS.k 64 9 rfl) (by rw [(hS.z 64 24 rfl)]; exact hb) ?_
              refine V_icmp_ge 162 dX8_giveBag_154 rfl (fun hc => ?_) (fun hc => ?_)
              · replace h := h.1 hc
                refine V_iload dX8_giveBag_162 rfl ?_
                refine V_aload_n dX8_giveBag_164 rfl rfl ?_
                refine V_getr dX8_giveBag_165 fl_RX8_51 (hS.n 51 rfl) (hS.k 51 8 rfl) rfl (hS.r 51 18 64 rfl) ?_
                refine V_iload_n dX8_giveBag_168 rfl rfl ?_
                obtain ⟨hb, h⟩ := h
                refine V_iald dX8_giveBag_169 (hS.n 64 rfl) (hS.k 64 9 rfl) (by rw [(hS.z 64 24 rfl)]; exact hb) ?_
                refine V_isub dX8_giveBag_170 ?_
                refine V_iconst (v := 0) dX8_giveBag_171 (by decide) ?_
                refine V_callVv (st := []) [.int a1, .int x3, .int (x6 - (I 64 (x2).toNatClampNeg)), .int 0] dX8_giveBag_172 ok_mX8_copyRow rfl ml_RX8_158 in_mX8_copyRow se_mX8_copyRow (hS.n 51 rfl) (hS.k 51 8 rfl) (by decide) rfl (Nat.le_of_ble_eq_true rfl) (by decide) (by decide) (by decide) (s_mX8_copyRow hS h) (fun I45 J9 h => ?_)
                obtain ⟨rfl, h⟩ := h
                refine V_aload_n dX8_giveBag_175 rfl rfl ?_
                refine V_getr dX8_giveBag_176 fl_RX8_51 (hS.n 51 rfl) (hS.k 51 8 rfl) rfl (hS.r 51 18 64 rfl) ?_
                refine V_iload_n dX8_giveBag_179 rfl rfl ?_
                refine V_dup2 dX8_giveBag_180 rfl rfl ?_
                obtain ⟨hb, h⟩ := h
                refine V_iald dX8_giveBag_181 (hS.n 64 rfl) (hS.k 64 9 rfl) (by rw [(hS.z 64 24 rfl)]; exact hb) ?_
                refine V_iconst (v := 1) dX8_giveBag_182 (by decide) ?_
                refine V_iadd dX8_giveBag_183 ?_
                obtain ⟨hb, h⟩ := h
                refine V_iast dX8_giveBag_184 (hS.n 64 rfl) (hS.k 64 9 rfl) (by rw [(hS.z 64 24 rfl)]; exact hb) ?_
                refine V_memI (fun I46 e_I46 => ?_)
                replace h := h I46 e_I46
                obtain ⟨v47, e_v47⟩ : ∃ z : Int32, z = (x6 + 1) := ⟨_, rfl⟩
                replace h := h v47 e_v47
                refine V_iinc (lo2 := [(6, .int v47), (0, .ref 51), (1, .int a1), (2, .int x2), (3, .int x3), (4, .int x4), (5, .int x5)]) 6 dX8_giveBag_185 rfl (v := v47) (by rw [e_v47]; first | done | rfl) (by decide) rfl ?_
                refine V_goto 80 dX8_giveBag_188 rfl ?_
                refine V_sub (lo2 := [(0, .ref 51), (1, .int a1), (2, .int x2), (3, .int x3), (4, .int x4), (5, .int x5), (6, .int v47)]) [1, 2, 3, 4, 5, 6, 0] rfl ?_
                exact ih _ _ _ _ _ _ h
              · replace h := h.2 hc
                refine V_iload dX8_giveBag_157 rfl ?_
                refine V_goto 171 dX8_giveBag_159 rfl ?_
                refine V_iconst (v := 0) dX8_giveBag_171 (by decide) ?_
                refine V_callVv (st := []) [.int a1, .int x3, .int x6, .int 0] dX8_giveBag_172 ok_mX8_copyRow rfl ml_RX8_158 in_mX8_copyRow se_mX8_copyRow (hS.n 51 rfl) (hS.k 51 8 rfl) (by decide) rfl (Nat.le_of_ble_eq_true rfl) (by decide) (by decide) (by decide) (s_mX8_copyRow hS h) (fun I48 J9 h => ?_)
                obtain ⟨rfl, h⟩ := h
                refine V_aload_n dX8_giveBag_175 rfl rfl ?_
                refine V_getr dX8_giveBag_176 fl_RX8_51 (hS.n 51 rfl) (hS.k 51 8 rfl) rfl (hS.r 51 18 64 rfl) ?_
                refine V_iload_n dX8_giveBag_179 rfl rfl ?_
                refine V_dup2 dX8_giveBag_180 rfl rfl ?_
                obtain ⟨hb, h⟩ := h
                refine V_iald dX8_giveBag_181 (hS.n 64 rfl) (hS.k 64 9 rfl) (by rw [(hS.z 64 24 rfl)]; exact hb) ?_
                refine V_iconst (v := 1) dX8_giveBag_182 (by decide) ?_
                refine V_iadd dX8_giveBag_183 ?_
                obtain ⟨hb, h⟩ := h
                refine V_iast dX8_giveBag_184 (hS.n 64 rfl) (hS.k 64 9 rfl) (by rw [(hS.z 64 24 rfl)]; exact hb) ?_
                refine V_memI (fun I49 e_I49 => ?_)
                replace h := h I49 e_I49
                obtain ⟨v50, e_v50⟩ : ∃ z : Int32, z = (x6 + 1) := ⟨_, rfl⟩
                replace h := h v50 e_v50
                refine V_iinc (lo2 := [(6, .int v50), (0, .ref 51), (1, .int a1), (2, .int x2), (3, .int x3), (4, .int x4), (5, .int x5)]) 6 dX8_giveBag_185 rfl (v := v50) (by rw [e_v50]; first | done | rfl) (by decide) rfl ?_
                refine V_goto 80 dX8_giveBag_188 rfl ?_
                refine V_sub (lo2 := [(0, .ref 51), (1, .int a1), (2, .int x2), (3, .int x3), (4, .int x4), (5, .int x5), (6, .int v50)]) [1, 2, 3, 4, 5, 6, 0] rfl ?_
                exact ih _ _ _ _ _ _ h
            · replace h := h.2 hc
              refine V_iload_n dX8_giveBag_141 rfl rfl ?_
              refine V_goto 146 dX8_giveBag_142 rfl ?_
              refine V_iload dX8_giveBag_146 rfl ?_
              refine V_aload_n dX8_giveBag_148 rfl rfl ?_
              refine V_getr dX8_giveBag_149 fl_RX8_51 (hS.n 51 rfl) (hS.k 51 8 rfl) rfl (hS.r 51 18 64 rfl) ?_
              refine V_iload_n dX8_giveBag_152 rfl rfl ?_
              obtain ⟨hb, h⟩ := h
              refine V_iald dX8_giveBag_153 (hS.n 64 rfl) (hS.k 64 9 rfl) (by rw [(hS.z 64 24 rfl)]; exact hb) ?_
              refine V_icmp_ge 162 dX8_giveBag_154 rfl (fun hc => ?_) (fun hc => ?_)
              · replace h := h.1 hc
                refine V_iload dX8_giveBag_162 rfl ?_
                refine V_aload_n dX8_giveBag_164 rfl rfl ?_
                refine V_getr dX8_giveBag_165 fl_RX8_51 (hS.n 51 rfl) (hS.k 51 8 rfl) rfl (hS.r 51 18 64 rfl) ?_
                refine V_iload_n dX8_giveBag_168 rfl rfl ?_
                obtain ⟨hb, h⟩ := h
                refine V_iald dX8_giveBag_169 (hS.n 64 rfl) (hS.k 64 9 rfl) (by rw [(hS.z 64 24 rfl)]; exact hb) ?_
                refine V_isub dX8_giveBag_170 ?_
                refine V_iconst (v := 0) dX8_giveBag_171 (by decide) ?_
                refine V_callVv (st := []) [.int a1, .int x2, .int (x6 - (I 64 (x2).toNatClampNeg)), .int 0] dX8_giveBag_172 ok_mX8_copyRow rfl ml_RX8_158 in_mX8_copyRow se_mX8_copyRow (hS.n 51 rfl) (hS.k 51 8 rfl) (by decide) rfl (Nat.le_of_ble_eq_true rfl) (by decide) (by decide) (by decide) (s_mX8_copyRow hS h) (fun I51 J9 h => ?_)
                obtain ⟨rfl, h⟩ := h
                refine V_aload_n dX8_giveBag_175 rfl rfl ?_
                refine V_getr dX8_giveBag_176 fl_RX8_51 (hS.n 51 rfl) (hS.k 51 8 rfl) rfl (hS.r 51 18 64 rfl) ?_
                refine V_iload_n dX8_giveBag_179 rfl rfl ?_
                refine V_dup2 dX8_giveBag_180 rfl rfl ?_
                obtain ⟨hb, h⟩ := h
                refine V_iald dX8_giveBag_181 (hS.n 64 rfl) (hS.k 64 9 rfl) (by rw [(hS.z 64 24 rfl)]; exact hb) ?_
                refine V_iconst (v := 1) dX8_giveBag_182 (by decide) ?_
                refine V_iadd dX8_giveBag_183 ?_
                obtain ⟨hb, h⟩ := h
                refine V_iast dX8_giveBag_184 (hS.n 64 rfl) (hS.k 64 9 rfl) (by rw [(hS.z 64 24 rfl)]; exact hb) ?_
                refine V_memI (fun I52 e_I52 => ?_)
                replace h := h I52 e_I52
                obtain ⟨v53, e_v53⟩ : ∃ z : Int32, z = (x6 + 1) := ⟨_, rfl⟩
                replace h := h v53 e_v53
                refine V_iinc (lo2 := [(6, .int v53), (0, .ref 51), (1, .int a1), (2, .int x2), (3, .int x3), (4, .int x4), (5, .int x5)]) 6 dX8_giveBag_185 rfl (v := v53) (by rw [e_v53]; first | done | rfl) (by decide) rfl ?_
                refine V_goto 80 dX8_giveBag_188 rfl ?_
                refine V_sub (lo2 := [(0, .ref 51), (1, .int a1), (2, .int x2), (3, .int x3), (4, .int x4), (5, .int x5), (6, .int v53)]) [1, 2, 3, 4, 5, 6, 0] rfl ?_
                exact ih _ _ _ _ _ _ h
              · replace h := h.2 hc
                refine V_iload dX8_giveBag_157 rfl ?_
                refine V_goto 171 dX8_giveBag_159 rfl ?_
                refine V_iconst (v := 0) dX8_giveBag_171 (by decide) ?_
                refine V_callVv (st := []) [.int a1, .int x2, .int x6, .int 0] dX8_giveBag_172 ok_mX8_copyRow rfl ml_RX8_158 in_mX8_copyRow se_mX8_copyRow (hS.n 51 rfl) (hS.k 51 8 rfl) (by decide) rfl (Nat.le_of_ble_eq_true rfl) (by decide) (by decide) (by decide) (s_mX8_copyRow hS h) (fun I54 J9 h => ?_)
                obtain ⟨rfl, h⟩ := h
                refine V_aload_n dX8_giveBag_175 rfl rfl ?_
                refine V_getr dX8_giveBag_176 fl_RX8_51 (hS.n 51 rfl) (hS.k 51 8 rfl) rfl (hS.r 51 18 64 rfl) ?_
                refine V_iload_n dX8_giveBag_179 rfl rfl ?_
                refine V_dup2 dX8_giveBag_180 rfl rfl ?_
                obtain ⟨hb, h⟩ := h
                refine V_iald dX8_giveBag_181 (hS.n 64 rfl) (hS.k 64 9 rfl) (by rw [(hS.z 64 24 rfl)]; exact hb) ?_
                refine V_iconst (v := 1) dX8_giveBag_182 (by decide) ?_
                refine V_iadd dX8_giveBag_183 ?_
                obtain ⟨hb, h⟩ := h
                refine V_iast dX8_giveBag_184 (hS.n 64 rfl) (hS.k 64 9 rfl) (by rw [(hS.z 64 24 rfl)]; exact hb) ?_
                refine V_memI (fun I55 e_I55 => ?_)
                replace h := h I55 e_I55
                obtain ⟨v56, e_v56⟩ : ∃ z : Int32, z = (x6 + 1) := ⟨_, rfl⟩
                replace h := h v56 e_v56
                refine V_iinc (lo2 := [(6, .int v56), (0, .ref 51), (1, .int a1), (2, .int x2), (3, .int x3), (4, .int x4), (5, .int x5)]) 6 dX8_giveBag_185 rfl (v := v56) (by rw [e_v56]; first | done | rfl) (by decide) rfl ?_
                refine V_goto 80 dX8_giveBag_188 rfl ?_
                refine V_sub (lo2 := [(0, .ref 51), (1, .int a1), (2, .int x2), (3, .int x3), (4, .int x4), (5, .int x5), (6, .int v56)]) [1, 2, 3, 4, 5, 6, 0] rfl ?_
                exact ih _ _ _ _ _ _ h
def wX8_giveBag (a1 : Int32) (I : QI) (post : QI → Prop) : Prop := (vp_in a1 24 ∧ (∀ v1 : Int32, v1 = (I 56 (a1).toNatClampNeg) → (vp_in a1 24 ∧ (∀ v2 : Int32, v2 = (I 57 (a1).toNatClampNeg) → (vp_in a1 24 ∧ (∀ v3 : Int32, v3 = (I 58 (a1).toNatClampNeg) → ((¬ v3 = 0 → ((v3 ≤ 2 → (wX8_takeAway v1 v2 I (fun I4 => ((v3 = 0 → (∃ f : Nat, wX8_giveBag_80 a1 post f v1 v2 v3 1 0 I4)) ∧ (¬ v3 = 0 → ((v3 ≤ 2 → (∃ f : Nat, wX8_giveBag_80 a1 post f v1 v2 v3 0 0 I4)) ∧ (¬ v3 ≤ 2 → (∃ f : Nat, wX8_giveBag_80 a1 post f v1 v2 v3 1 0 I4)))))))) ∧ (¬ v3 ≤ 2 → (wX8_markAgain v1 v2 I (fun I57 => ((v3 = 0 → (∃ f : Nat, wX8_giveBag_80 a1 post f v1 v2 v3 1 0 I57)) ∧ (¬ v3 = 0 → ((v3 ≤ 2 → (∃ f : Nat, wX8_giveBag_80 a1 post f v1 v2 v3 0 0 I57)) ∧ (¬ v3 ≤ 2 → (∃ f : Nat, wX8_giveBag_80 a1 post f v1 v2 v3 1 0 I57)))))))))) ∧ (v3 = 0 → (wJ7_fill 68 400 0 I (fun I58 => ((v3 = 0 → (∃ f : Nat, wX8_giveBag_80 a1 post f v1 v2 v3 1 0 I58)) ∧ (¬ v3 = 0 → ((v3 ≤ 2 → (∃ f : Nat, wX8_giveBag_80 a1 post f v1 v2 v3 0 0 I58)) ∧ (¬ v3 ≤ 2 → (∃ f : Nat, wX8_giveBag_80 a1 post f v1 v2 v3 1 0 I58)))))))))))))))
set_option maxRecDepth 100000 in
set_option maxHeartbeats 4000000 in
theorem s_mX8_giveBag {X : QX} {S : QS} {a1 : Int32} {I : QI} {J : QJ} {post : QI → Prop} (hS : Sh S) (h : wX8_giveBag a1 I post) : CX X mX8_giveBag 3 0 0 [.ref 51, .int a1] S I J (q_Pv S (fun I2 J2 => J = J2 ∧ post I2)) := by
  refine CX.of (lo := [(0, .ref 51), (1, .int a1)]) ok_mX8_giveBag rfl (Nat.le_of_ble_eq_true rfl) rfl ?_
  replace h : (vp_in a1 24 ∧ (∀ v1 : Int32, v1 = (I 56 (a1).toNatClampNeg) → (vp_in a1 24 ∧ (∀ v2 : Int32, v2 = (I 57 (a1).toNatClampNeg) → (vp_in a1 24 ∧ (∀ v3 : Int32, v3 = (I 58 (a1).toNatClampNeg) → ((¬ v3 = 0 → ((v3 ≤ 2 → (wX8_takeAway v1 v2 I (fun I4 => ((v3 = 0 → (∃ f : Nat, wX8_giveBag_80 a1 post f v1 v2 v3 1 0 I4)) ∧ (¬ v3 = 0 → ((v3 ≤ 2 → (∃ f : Nat, wX8_giveBag_80 a1 post f v1 v2 v3 0 0 I4)) ∧ (¬ v3 ≤ 2 → (∃ f : Nat, wX8_giveBag_80 a1 post f v1 v2 v3 1 0 I4)))))))) ∧ (¬ v3 ≤ 2 → (wX8_markAgain v1 v2 I (fun I57 => ((v3 = 0 → (∃ f : Nat, wX8_giveBag_80 a1 post f v1 v2 v3 1 0 I57)) ∧ (¬ v3 = 0 → ((v3 ≤ 2 → (∃ f : Nat, wX8_giveBag_80 a1 post f v1 v2 v3 0 0 I57)) ∧ (¬ v3 ≤ 2 → (∃ f : Nat, wX8_giveBag_80 a1 post f v1 v2 v3 1 0 I57)))))))))) ∧ (v3 = 0 → (wJ7_fill 68 400 0 I (fun I58 => ((v3 = 0 → (∃ f : Nat, wX8_giveBag_80 a1 post f v1 v2 v3 1 0 I58)) ∧ (¬ v3 = 0 → ((v3 ≤ 2 → (∃ f : Nat, wX8_giveBag_80 a1 post f v1 v2 v3 0 0 I58)) ∧ (¬ v3 ≤ 2 → (∃ f : Nat, wX8_giveBag_80 a1 post f v1 v2 v3 1 0 I58))))))))))))))) := h
  refine V_aload_n dX8_giveBag_0 rfl rfl ?_
  refine V_getr dX8_giveBag_1 fl_RX8_22 (hS.n 51 rfl) (hS.k 51 8 rfl) rfl (hS.r 51 7 56 rfl) ?_
  refine V_iload_n dX8_giveBag_4 rfl rfl ?_
  obtain ⟨hb, h⟩ := h
  refine V_iald dX8_giveBag_5 (hS.n 56 rfl) (hS.k 56 9 rfl) (by rw [(hS.z 56 24 rfl)]; exact hb) ?_
  refine V_topi (fun v1 e_v1 => ?_)
  replace h := h v1 e_v1
  refine V_istore_n (lo2 := [(2, .int v1), (0, .ref 51), (1, .int a1)]) dX8_giveBag_6 rfl (by decide) rfl ?_
  refine V_aload_n dX8_giveBag_7 rfl rfl ?_
  refine V_getr dX8_giveBag_8 fl_RX8_25 (hS.n 51 rfl) (hS.k 51 8 rfl) rfl (hS.r 51 8 57 rfl) ?_
  refine V_iload_n dX8_giveBag_11 rfl rfl ?_
  obtain ⟨hb, h⟩ := h
  refine V_iald dX8_giveBag_12 (hS.n 57 rfl) (hS.k 57 9 rfl) (by rw [(hS.z 57 24 rfl)]; exact hb) ?_
  refine V_topi (fun v2 e_v2 => ?_)
  replace h := h v2 e_v2
  refine V_istore_n (lo2 := [(3, .int v2), (2, .int v1), (0, .ref 51), (1, .int a1)]) dX8_giveBag_13 rfl (by decide) rfl ?_
  refine V_aload_n dX8_giveBag_14 rfl rfl ?_
  refine V_getr dX8_giveBag_15 fl_RX8_28 (hS.n 51 rfl) (hS.k 51 8 rfl) rfl (hS.r 51 9 58 rfl) ?_
  refine V_iload_n dX8_giveBag_18 rfl rfl ?_
  obtain ⟨hb, h⟩ := h
  refine V_iald dX8_giveBag_19 (hS.n 58 rfl) (hS.k 58 9 rfl) (by rw [(hS.z 58 24 rfl)]; exact hb) ?_
  refine V_topi (fun v3 e_v3 => ?_)
  replace h := h v3 e_v3
  refine V_istore (lo2 := [(4, .int v3), (3, .int v2), (2, .int v1), (0, .ref 51), (1, .int a1)]) dX8_giveBag_20 (by decide) rfl ?_
  refine V_iload dX8_giveBag_22 rfl ?_
  refine V_if_ne 38 dX8_giveBag_24 rfl (fun hc => ?_) (fun hc => ?_)
  · replace h := h.1 hc
    refine V_iload dX8_giveBag_38 rfl ?_
    refine V_iconst (v := 2) dX8_giveBag_40 (by decide) ?_
    refine V_icmp_le 53 dX8_giveBag_41 rfl (fun hc => ?_) (fun hc => ?_)
    · replace h := h.1 hc
      refine V_aload_n dX8_giveBag_53 rfl rfl ?_
      refine V_iload_n dX8_giveBag_54 rfl rfl ?_
      refine V_iload_n dX8_giveBag_55 rfl rfl ?_
      refine V_callVv (st := []) [.int v1, .int v2] dX8_giveBag_56 ok_mX8_takeAway rfl ml_RX8_180 in_mX8_takeAway se_mX8_takeAway (hS.n 51 rfl) (hS.k 51 8 rfl) (by decide) rfl (Nat.le_of_ble_eq_true rfl) (by decide) (by decide) (by decide) (s_mX8_takeAway hS h) (fun I4 J9 h => ?_)
      obtain ⟨rfl, h⟩ := h
      refine V_iload dX8_giveBag_59 rfl ?_
      refine V_if_eq 70 dX8_giveBag_61 rfl (fun hc => ?_) (fun hc => ?_)
      · replace h := h.1 hc
        refine V_iconst (v := 1) dX8_giveBag_70 (by decide) ?_
        refine V_goto 75 dX8_giveBag_71 rfl ?_
        refine V_istore (lo2 := [(5, .int 1), (4, .int v3), (3, .int v2), (2, .int v1), (0, .ref 51), (1, .int a1)]) dX8_giveBag_75 (by decide) rfl ?_
        refine V_iconst (v := 0) dX8_giveBag_77 (by decide) ?_
        refine V_istore (lo2 := [(6, .int 0), (5, .int 1), (4, .int v3), (3, .int v2), (2, .int v1), (0, .ref 51), (1, .int a1)]) dX8_giveBag_78 (by decide) rfl ?_
        refine V_sub (lo2 := [(0, .ref 51), (1, .int a1), (2, .int v1), (3, .int v2), (4, .int v3), (5, .int 1), (6, .int 0)]) [5, 6, 4, 3, 2, 1, 0] rfl ?_
        obtain ⟨f9, h⟩ := h
        refine swX8_giveBag_80 hS f9 _ _ _ _ _ _ h
      · replace h := h.2 hc
        refine V_iload dX8_giveBag_64 rfl ?_
        refine V_iconst (v := 2) dX8_giveBag_66 (by decide) ?_
        refine V_icmp_le 74 dX8_giveBag_67 rfl (fun hc => ?_) (fun hc => ?_)
        · replace h := h.1 hc
          refine V_iconst (v := 0) dX8_giveBag_74 (by decide) ?_
          refine V_istore (lo2 := [(5, .int 0), (4, .int v3), (3, .int v2), (2, .int v1), (0, .ref 51), (1, .int a1)]) dX8_giveBag_75 (by decide) rfl ?_
          refine V_iconst (v := 0) dX8_giveBag_77 (by decide) ?_
          refine V_istore (lo2 := [(6, .int 0), (5, .int 0), (4, .int v3), (3, .int v2), (2, .int v1), (0, .ref 51), (1, .int a1)]) dX8_giveBag_78 (by decide) rfl ?_
          refine V_sub (lo2 := [(0, .ref 51), (1, .int a1), (2, .int v1), (3, .int v2), (4, .int v3), (5, .int 0), (6, .int 0)]) [5, 6, 4, 3, 2, 1, 0] rfl ?_
          obtain ⟨f9, h⟩ := h
          refine swX8_giveBag_80 hS f9 _ _ _ _ _ _ h
        · replace h := h.2 hc
          refine V_iconst (v := 1) dX8_giveBag_70 (by decide) ?_
          refine V_goto 75 dX8_giveBag_71 rfl ?_
          refine V_istore (lo2 := [(5, .int 1), (4, .int v3), (3, .int v2), (2, .int v1), (0, .ref 51), (1, .int a1)]) dX8_giveBag_75 (by decide) rfl ?_
          refine V_iconst (v := 0) dX8_giveBag_77 (by decide) ?_
          refine V_istore (lo2 := [(6, .int 0), (5, .int 1), (4, .int v3), (3, .int v2), (2, .int v1), (0, .ref 51), (1, .int a1)]) dX8_giveBag_78 (by decide) rfl ?_
          refine V_sub (lo2 := [(0, .ref 51), (1, .int a1), (2, .int v1), (3, .int v2), (4, .int v3), (5, .int 1), (6, .int 0)]) [5, 6, 4, 3, 2, 1, 0] rfl ?_
          obtain ⟨f9, h⟩ := h
          refine swX8_giveBag_80 hS f9 _ _ _ _ _ _ h
    · replace h := h.2 hc
      refine V_aload_n dX8_giveBag_44 rfl rfl ?_
      refine V_iload_n dX8_giveBag_45 rfl rfl ?_
      refine V_iload_n dX8_giveBag_46 rfl rfl ?_
      refine V_callVv (st := []) [.int v1, .int v2] dX8_giveBag_47 ok_mX8_markAgain rfl ml_RX8_176 in_mX8_markAgain se_mX8_markAgain (hS.n 51 rfl) (hS.k 51 8 rfl) (by decide) rfl (Nat.le_of_ble_eq_true rfl) (by decide) (by decide) (by decide) (s_mX8_markAgain hS h) (fun I57 J9 h => ?_)
      obtain ⟨rfl, h⟩ := h
      refine V_goto 59 dX8_giveBag_50 rfl ?_
      refine V_iload dX8_giveBag_59 rfl ?_
      refine V_if_eq 70 dX8_giveBag_61 rfl (fun hc => ?_) (fun hc => ?_)
      · replace h := h.1 hc
        refine V_iconst (v := 1) dX8_giveBag_70 (by decide) ?_
        refine V_goto 75 dX8_giveBag_71 rfl ?_
        refine V_istore (lo2 := [(5, .int 1), (4, .int v3), (3, .int v2), (2, .int v1), (0, .ref 51), (1, .int a1)]) dX8_giveBag_75 (by decide) rfl ?_
        refine V_iconst (v := 0) dX8_giveBag_77 (by decide) ?_
        refine V_istore (lo2 := [(6, .int 0), (5, .int 1), (4, .int v3), (3, .int v2), (2, .int v1), (0, .ref 51), (1, .int a1)]) dX8_giveBag_78 (by decide) rfl ?_
        refine V_sub (lo2 := [(0, .ref 51), (1, .int a1), (2, .int v1), (3, .int v2), (4, .int v3), (5, .int 1), (6, .int 0)]) [5, 6, 4, 3, 2, 1, 0] rfl ?_
        obtain ⟨f9, h⟩ := h
        refine swX8_giveBag_80 hS f9 _ _ _ _ _ _ h
      · replace h := h.2 hc
        refine V_iload dX8_giveBag_64 rfl ?_
        refine V_iconst (v := 2) dX8_giveBag_66 (by decide) ?_
        refine V_icmp_le 74 dX8_giveBag_67 rfl (fun hc => ?_) (fun hc => ?_)
        · replace h := h.1 hc
          refine V_iconst (v := 0) dX8_giveBag_74 (by decide) ?_
          refine V_istore (lo2 := [(5, .int 0), (4, .int v3), (3, .int v2), (2, .int v1), (0, .ref 51), (1, .int a1)]) dX8_giveBag_75 (by decide) rfl ?_
          refine V_iconst (v := 0) dX8_giveBag_77 (by decide) ?_
          refine V_istore (lo2 := [(6, .int 0), (5, .int 0), (4, .int v3), (3, .int v2), (2, .int v1), (0, .ref 51), (1, .int a1)]) dX8_giveBag_78 (by decide) rfl ?_
          refine V_sub (lo2 := [(0, .ref 51), (1, .int a1), (2, .int v1), (3, .int v2), (4, .int v3), (5, .int 0), (6, .int 0)]) [5, 6, 4, 3, 2, 1, 0] rfl ?_
          obtain ⟨f9, h⟩ := h
          refine swX8_giveBag_80 hS f9 _ _ _ _ _ _ h
        · replace h := h.2 hc
          refine V_iconst (v := 1) dX8_giveBag_70 (by decide) ?_
          refine V_goto 75 dX8_giveBag_71 rfl ?_
          refine V_istore (lo2 := [(5, .int 1), (4, .int v3), (3, .int v2), (2, .int v1), (0, .ref 51), (1, .int a1)]) dX8_giveBag_75 (by decide) rfl ?_
          refine V_iconst (v := 0) dX8_giveBag_77 (by decide) ?_
          refine V_istore (lo2 := [(6, .int 0), (5, .int 1), (4, .int v3), (3, .int v2), (2, .int v1), (0, .ref 51), (1, .int a1)]) dX8_giveBag_78 (by decide) rfl ?_
          refine V_sub (lo2 := [(0, .ref 51), (1, .int a1), (2, .int v1), (3, .int v2), (4, .int v3), (5, .int 1), (6, .int 0)]) [5, 6, 4, 3, 2, 1, 0] rfl ?_
          obtain ⟨f9, h⟩ := h
          refine swX8_giveBag_80 hS f9 _ _ _ _ _ _ h
  · replace h := h.2 hc
    refine V_aload_n dX8_giveBag_27 rfl rfl ?_
    refine V_getr dX8_giveBag_28 fl_RX8_65 (hS.n 51 rfl) (hS.k 51 8 rfl) rfl (hS.r 51 22 68 rfl) ?_
    refine V_iconst (v := 0) dX8_giveBag_31 (by decide) ?_
    refine V_callSv (st := []) [.ref 68, .int 0] dX8_giveBag_32 ok_mJ7_fill_49daa rfl ml_RX8_166 st_mJ7_fill_49daa (Nat.le_of_ble_eq_true rfl) (by decide) (by decide) (by decide) (s_mJ7_fill (hS.n 68 rfl) (hS.k 68 11 rfl) (hS.z 68 400 rfl) (by decide) h) (fun I58 J9 h => ?_)
    obtain ⟨rfl, h⟩ := h
    refine V_goto 59 dX8_giveBag_35 rfl ?_
    refine V_iload dX8_giveBag_59 rfl ?_
    refine V_if_eq 70 dX8_giveBag_61 rfl (fun hc => ?_) (fun hc => ?_)
    · replace h := h.1 hc
      refine V_iconst (v := 1) dX8_giveBag_70 (by decide) ?_
      refine V_goto 75 dX8_giveBag_71 rfl ?_
      refine V_istore (lo2 := [(5, .int 1), (4, .int v3), (3, .int v2), (2, .int v1), (0, .ref 51), (1, .int a1)]) dX8_giveBag_75 (by decide) rfl ?_
      refine V_iconst (v := 0) dX8_giveBag_77 (by decide) ?_
      refine V_istore (lo2 := [(6, .int 0), (5, .int 1), (4, .int v3), (3, .int v2), (2, .int v1), (0, .ref 51), (1, .int a1)]) dX8_giveBag_78 (by decide) rfl ?_
      refine V_sub (lo2 := [(0, .ref 51), (1, .int a1), (2, .int v1), (3, .int v2), (4, .int v3), (5, .int 1), (6, .int 0)]) [5, 6, 4, 3, 2, 1, 0] rfl ?_
      obtain ⟨f9, h⟩ := h
      refine swX8_giveBag_80 hS f9 _ _ _ _ _ _ h
    · replace h := h.2 hc
      refine V_iload dX8_giveBag_64 rfl ?_
      refine V_iconst (v := 2) dX8_giveBag_66 (by decide) ?_
      refine V_icmp_le 74 dX8_giveBag_67 rfl (fun hc => ?_) (fun hc => ?_)
      · replace h := h.1 hc
        refine V_iconst (v := 0) dX8_giveBag_74 (by decide) ?_
        refine V_istore (lo2 := [(5, .int 0), (4, .int v3), (3, .int v2), (2, .int v1), (0, .ref 51), (1, .int a1)]) dX8_giveBag_75 (by decide) rfl ?_
        refine V_iconst (v := 0) dX8_giveBag_77 (by decide) ?_
        refine V_istore (lo2 := [(6, .int 0), (5, .int 0), (4, .int v3), (3, .int v2), (2, .int v1), (0, .ref 51), (1, .int a1)]) dX8_giveBag_78 (by decide) rfl ?_
        refine V_sub (lo2 := [(0, .ref 51), (1, .int a1), (2, .int v1), (3, .int v2), (4, .int v3), (5, .int 0), (6, .int 0)]) [5, 6, 4, 3, 2, 1, 0] rfl ?_
        obtain ⟨f9, h⟩ := h
        refine swX8_giveBag_80 hS f9 _ _ _ _ _ _ h
      · replace h := h.2 hc
        refine V_iconst (v := 1) dX8_giveBag_70 (by decide) ?_
        refine V_goto 75 dX8_giveBag_71 rfl ?_
        refine V_istore (lo2 := [(5, .int 1), (4, .int v3), (3, .int v2), (2, .int v1), (0, .ref 51), (1, .int a1)]) dX8_giveBag_75 (by decide) rfl ?_
        refine V_iconst (v := 0) dX8_giveBag_77 (by decide) ?_
        refine V_istore (lo2 := [(6, .int 0), (5, .int 1), (4, .int v3), (3, .int v2), (2, .int v1), (0, .ref 51), (1, .int a1)]) dX8_giveBag_78 (by decide) rfl ?_
        refine V_sub (lo2 := [(0, .ref 51), (1, .int a1), (2, .int v1), (3, .int v2), (4, .int v3), (5, .int 1), (6, .int 0)]) [5, 6, 4, 3, 2, 1, 0] rfl ?_
        obtain ⟨f9, h⟩ := h
        refine swX8_giveBag_80 hS f9 _ _ _ _ _ _ h
def wX8_isTrue (a0 : Int32) (a1 : Int32) (a2 : Int32) (I : QI) (post : Int32 → Prop) : Prop := ((a1 ≤ 3 → ((a0 = (-1000) → post 0) ∧ (¬ a0 = (-1000) → ((a2 = (-1000) → post 0) ∧ (¬ a2 = (-1000) → ((¬ a1 = 0 → ((¬ a1 = 1 → ((¬ a1 = 2 → ((a0 ≤ a2 → post 0) ∧ (¬ a0 ≤ a2 → post 1))) ∧ (a1 = 2 → ((a2 ≤ a0 → post 0) ∧ (¬ a2 ≤ a0 → post 1))))) ∧ (a1 = 1 → ((a0 = a2 → post 0) ∧ (¬ a0 = a2 → post 1))))) ∧ (a1 = 0 → ((¬ a0 = a2 → post 0) ∧ (a0 = a2 → post 1))))))))) ∧ (¬ a1 ≤ 3 → ((¬ a0 = (-1000) → ((¬ a1 = 4 → post 1) ∧ (a1 = 4 → post 0))) ∧ (a0 = (-1000) → ((¬ a1 = 4 → post 0) ∧ (a1 = 4 → post 1))))))
set_option maxRecDepth 100000 in
set_option maxHeartbeats 4000000 in
theorem s_mX8_isTrue {X : QX} {S : QS} {a0 : Int32} {a1 : Int32} {a2 : Int32} {I : QI} {J : QJ} {post : Int32 → Prop} (hS : Sh S) (h : wX8_isTrue a0 a1 a2 I post) : CX X mX8_isTrue 0 0 0 [.int a0, .int a1, .int a2] S I J (q_Pi S (fun r I2 J2 => I = I2 ∧ J = J2 ∧ post r)) := by
  refine CX.of (lo := [(0, .int a0), (1, .int a1), (2, .int a2)]) ok_mX8_isTrue rfl (Nat.le_of_ble_eq_true rfl) rfl ?_
  replace h : ((a1 ≤ 3 → ((a0 = (-1000) → post 0) ∧ (¬ a0 = (-1000) → ((a2 = (-1000) → post 0) ∧ (¬ a2 = (-1000) → ((¬ a1 = 0 → ((¬ a1 = 1 → ((¬ a1 = 2 → ((a0 ≤ a2 → post 0) ∧ (¬ a0 ≤ a2 → post 1))) ∧ (a1 = 2 → ((a2 ≤ a0 → post 0) ∧ (¬ a2 ≤ a0 → post 1))))) ∧ (a1 = 1 → ((a0 = a2 → post 0) ∧ (¬ a0 = a2 → post 1))))) ∧ (a1 = 0 → ((¬ a0 = a2 → post 0) ∧ (a0 = a2 → post 1))))))))) ∧ (¬ a1 ≤ 3 → ((¬ a0 = (-1000) → ((¬ a1 = 4 → post 1) ∧ (a1 = 4 → post 0))) ∧ (a0 = (-1000) → ((¬ a1 = 4 → post 0) ∧ (a1 = 4 → post 1)))))) := h
  refine V_iload_n dX8_isTrue_0 rfl rfl ?_
  refine V_iconst (v := 3) dX8_isTrue_1 (by decide) ?_
  refine V_icmp_le 36 dX8_isTrue_2 rfl (fun hc => ?_) (fun hc => ?_)
  · replace h := h.1 hc
    refine V_iload_n dX8_isTrue_36 rfl rfl ?_
    refine V_sipush (v := (-1000)) dX8_isTrue_37 (by decide) ?_
    refine V_icmp_eq 54 dX8_isTrue_40 rfl (fun hc => ?_) (fun hc => ?_)
    · replace h := h.1 hc
      refine V_iconst (v := 0) dX8_isTrue_54 (by decide) ?_
      refine V_istore_n (lo2 := [(3, .int 0), (0, .int a0), (1, .int a1), (2, .int a2)]) dX8_isTrue_55 rfl (by decide) rfl ?_
      refine V_iload_n dX8_isTrue_56 rfl rfl ?_
      refine V_if_eq 107 dX8_isTrue_57 rfl (fun hc => ?_) (fun hc => ?_)
      · refine V_iconst (v := 0) dX8_isTrue_107 (by decide) ?_
        exact V_zret dX8_isTrue_108 rfl (by decide) (by decide) (by decide) ⟨_, rfl, rfl, rfl, rfl, h⟩
      · first | exact absurd hc (by decide) | exact absurd (by decide) hc
    · replace h := h.2 hc
      refine V_iload_n dX8_isTrue_43 rfl rfl ?_
      refine V_sipush (v := (-1000)) dX8_isTrue_44 (by decide) ?_
      refine V_icmp_eq 54 dX8_isTrue_47 rfl (fun hc => ?_) (fun hc => ?_)
      · replace h := h.1 hc
        refine V_iconst (v := 0) dX8_isTrue_54 (by decide) ?_
        refine V_istore_n (lo2 := [(3, .int 0), (0, .int a0), (1, .int a1), (2, .int a2)]) dX8_isTrue_55 rfl (by decide) rfl ?_
        refine V_iload_n dX8_isTrue_56 rfl rfl ?_
        refine V_if_eq 107 dX8_isTrue_57 rfl (fun hc => ?_) (fun hc => ?_)
        · refine V_iconst (v := 0) dX8_isTrue_107 (by decide) ?_
          exact V_zret dX8_isTrue_108 rfl (by decide) (by decide) (by decide) ⟨_, rfl, rfl, rfl, rfl, h⟩
        · first | exact absurd hc (by decide) | exact absurd (by decide) hc
      · replace h := h.2 hc
        refine V_iconst (v := 1) dX8_isTrue_50 (by decide) ?_
        refine V_goto 55 dX8_isTrue_51 rfl ?_
        refine V_istore_n (lo2 := [(3, .int 1), (0, .int a0), (1, .int a1), (2, .int a2)]) dX8_isTrue_55 rfl (by decide) rfl ?_
        refine V_iload_n dX8_isTrue_56 rfl rfl ?_
        refine V_if_eq 107 dX8_isTrue_57 rfl (fun hc => ?_) (fun hc => ?_)
        · first | exact absurd hc (by decide) | exact absurd (by decide) hc
        · refine V_iload_n dX8_isTrue_60 rfl rfl ?_
          refine V_if_ne 72 dX8_isTrue_61 rfl (fun hc => ?_) (fun hc => ?_)
          · replace h := h.1 hc
            refine V_iload_n dX8_isTrue_72 rfl rfl ?_
            refine V_iconst (v := 1) dX8_isTrue_73 (by decide) ?_
            refine V_icmp_ne 85 dX8_isTrue_74 rfl (fun hc => ?_) (fun hc => ?_)
            · replace h := h.1 hc
              refine V_iload_n dX8_isTrue_85 rfl rfl ?_
              refine V_iconst (v := 2) dX8_isTrue_86 (by decide) ?_
              refine V_icmp_ne 98 dX8_isTrue_87 rfl (fun hc => ?_) (fun hc => ?_)
              · replace h := h.1 hc
                refine V_iload_n dX8_isTrue_98 rfl rfl ?_
                refine V_iload_n dX8_isTrue_99 rfl rfl ?_
                refine V_icmp_le 107 dX8_isTrue_100 rfl (fun hc => ?_) (fun hc => ?_)
                · replace h := h.1 hc
                  refine V_iconst (v := 0) dX8_isTrue_107 (by decide) ?_
                  exact V_zret dX8_isTrue_108 rfl (by decide) (by decide) (by decide) ⟨_, rfl, rfl, rfl, rfl, h⟩
                · replace h := h.2 hc
                  refine V_iconst (v := 1) dX8_isTrue_103 (by decide) ?_
                  refine V_goto 108 dX8_isTrue_104 rfl ?_
                  exact V_zret dX8_isTrue_108 rfl (by decide) (by decide) (by decide) ⟨_, rfl, rfl, rfl, rfl, h⟩
              · replace h := h.2 hc
                refine V_iload_n dX8_isTrue_90 rfl rfl ?_
                refine V_iload_n dX8_isTrue_91 rfl rfl ?_
                refine V_icmp_ge 107 dX8_isTrue_92 rfl (fun hc => ?_) (fun hc => ?_)
                · replace h := h.1 hc
                  refine V_iconst (v := 0) dX8_isTrue_107 (by decide) ?_
                  exact V_zret dX8_isTrue_108 rfl (by decide) (by decide) (by decide) ⟨_, rfl, rfl, rfl, rfl, h⟩
                · replace h := h.2 hc
                  refine V_goto 103 dX8_isTrue_95 rfl ?_
                  refine V_iconst (v := 1) dX8_isTrue_103 (by decide) ?_
                  refine V_goto 108 dX8_isTrue_104 rfl ?_
                  exact V_zret dX8_isTrue_108 rfl (by decide) (by decide) (by decide) ⟨_, rfl, rfl, rfl, rfl, h⟩
            · replace h := h.2 hc
              refine V_iload_n dX8_isTrue_77 rfl rfl ?_
              refine V_iload_n dX8_isTrue_78 rfl rfl ?_
              refine V_icmp_eq 107 dX8_isTrue_79 rfl (fun hc => ?_) (fun hc => ?_)
              · replace h := h.1 hc
                refine V_iconst (v := 0) dX8_isTrue_107 (by decide) ?_
                exact V_zret dX8_isTrue_108 rfl (by decide) (by decide) (by decide) ⟨_, rfl, rfl, rfl, rfl, h⟩
              · replace h := h.2 hc
                refine V_goto 103 dX8_isTrue_82 rfl ?_
                refine V_iconst (v := 1) dX8_isTrue_103 (by decide) ?_
                refine V_goto 108 dX8_isTrue_104 rfl ?_
                exact V_zret dX8_isTrue_108 rfl (by decide) (by decide) (by decide) ⟨_, rfl, rfl, rfl, rfl, h⟩
          · replace h := h.2 hc
            refine V_iload_n dX8_isTrue_64 rfl rfl ?_
            refine V_iload_n dX8_isTrue_65 rfl rfl ?_
            refine V_icmp_ne 107 dX8_isTrue_66 rfl (fun hc => ?_) (fun hc => ?_)
            · replace h := h.1 hc
              refine V_iconst (v := 0) dX8_isTrue_107 (by decide) ?_
              exact V_zret dX8_isTrue_108 rfl (by decide) (by decide) (by decide) ⟨_, rfl, rfl, rfl, rfl, h⟩
            · replace h := h.2 hc
              refine V_goto 103 dX8_isTrue_69 rfl ?_
              refine V_iconst (v := 1) dX8_isTrue_103 (by decide) ?_
              refine V_goto 108 dX8_isTrue_104 rfl ?_
              exact V_zret dX8_isTrue_108 rfl (by decide) (by decide) (by decide) ⟨_, rfl, rfl, rfl, rfl, h⟩
  · replace h := h.2 hc
    refine V_iload_n dX8_isTrue_5 rfl rfl ?_
    refine V_sipush (v := (-1000)) dX8_isTrue_6 (by decide) ?_
    refine V_icmp_ne 16 dX8_isTrue_9 rfl (fun hc => ?_) (fun hc => ?_)
    · replace h := h.1 hc
      refine V_iconst (v := 0) dX8_isTrue_16 (by decide) ?_
      refine V_iload_n dX8_isTrue_17 rfl rfl ?_
      refine V_iconst (v := 4) dX8_isTrue_18 (by decide) ?_
      refine V_icmp_ne 26 dX8_isTrue_19 rfl (fun hc => ?_) (fun hc => ?_)
      · replace h := h.1 hc
        refine V_iconst (v := 0) dX8_isTrue_26 (by decide) ?_
        refine V_icmp_ne 34 dX8_isTrue_27 rfl (fun hc => ?_) (fun hc => ?_)
        · first | exact absurd hc (by decide) | exact absurd (by decide) hc
        · refine V_iconst (v := 1) dX8_isTrue_30 (by decide) ?_
          refine V_goto 35 dX8_isTrue_31 rfl ?_
          exact V_zret dX8_isTrue_35 rfl (by decide) (by decide) (by decide) ⟨_, rfl, rfl, rfl, rfl, h⟩
      · replace h := h.2 hc
        refine V_iconst (v := 1) dX8_isTrue_22 (by decide) ?_
        refine V_goto 27 dX8_isTrue_23 rfl ?_
        refine V_icmp_ne 34 dX8_isTrue_27 rfl (fun hc => ?_) (fun hc => ?_)
        · refine V_iconst (v := 0) dX8_isTrue_34 (by decide) ?_
          exact V_zret dX8_isTrue_35 rfl (by decide) (by decide) (by decide) ⟨_, rfl, rfl, rfl, rfl, h⟩
        · first | exact absurd hc (by decide) | exact absurd (by decide) hc
    · replace h := h.2 hc
      refine V_iconst (v := 1) dX8_isTrue_12 (by decide) ?_
      refine V_goto 17 dX8_isTrue_13 rfl ?_
      refine V_iload_n dX8_isTrue_17 rfl rfl ?_
      refine V_iconst (v := 4) dX8_isTrue_18 (by decide) ?_
      refine V_icmp_ne 26 dX8_isTrue_19 rfl (fun hc => ?_) (fun hc => ?_)
      · replace h := h.1 hc
        refine V_iconst (v := 0) dX8_isTrue_26 (by decide) ?_
        refine V_icmp_ne 34 dX8_isTrue_27 rfl (fun hc => ?_) (fun hc => ?_)
        · refine V_iconst (v := 0) dX8_isTrue_34 (by decide) ?_
          exact V_zret dX8_isTrue_35 rfl (by decide) (by decide) (by decide) ⟨_, rfl, rfl, rfl, rfl, h⟩
        · first | exact absurd hc (by decide) | exact absurd (by decide) hc
      · replace h := h.2 hc
        refine V_iconst (v := 1) dX8_isTrue_22 (by decide) ?_
        refine V_goto 27 dX8_isTrue_23 rfl ?_
        refine V_icmp_ne 34 dX8_isTrue_27 rfl (fun hc => ?_) (fun hc => ?_)
        · first | exact absurd hc (by decide) | exact absurd (by decide) hc
        · refine V_iconst (v := 1) dX8_isTrue_30 (by decide) ?_
          refine V_goto 35 dX8_isTrue_31 rfl ?_
          exact V_zret dX8_isTrue_35 rfl (by decide) (by decide) (by decide) ⟨_, rfl, rfl, rfl, rfl, h⟩
def wX8_giveFilter_2 (a1 : Int32) (post : QI → Prop) : Nat → Int32 → QI → Prop
  | 0, _, _ => False
  | n + 1, x2, I => (vp_in a1 24 ∧ (vp_in (I 56 (a1).toNatClampNeg) 24 ∧ (((I 64 ((I 56 (a1).toNatClampNeg)).toNatClampNeg) ≤ x2 → post I) ∧ (¬ (I 64 ((I 56 (a1).toNatClampNeg)).toNatClampNeg) ≤ x2 → (vp_in a1 24 ∧ (vp_in a1 24 ∧ (wX8_cellOf (I 56 (a1).toNatClampNeg) x2 (I 58 (a1).toNatClampNeg) I (fun r1 => (vp_in a1 24 ∧ (vp_in a1 24 ∧ (wX8_isTrue r1 (I 59 (a1).toNatClampNeg) (I 60 (a1).toNatClampNeg) I (fun r2 => ((r2 = 0 → (∀ v3 : Int32, v3 = (x2 + 1) → (wX8_giveFilter_2 a1 post n v3 I))) ∧ (¬ r2 = 0 → (vp_in a1 24 ∧ (wX8_copyRow a1 (I 56 (a1).toNatClampNeg) x2 0 I (fun I4 => (vp_in a1 24 ∧ (vp_in a1 24 ∧ (∀ I5 : QI, I5 = q_u2 I4 64 (a1).toNatClampNeg ((I4 64 (a1).toNatClampNeg) + 1) → (∀ v6 : Int32, v6 = (x2 + 1) → (wX8_giveFilter_2 a1 post n v6 I5))))))))))))))))))))))
set_option maxRecDepth 100000 in
set_option maxHeartbeats 4000000 in
theorem swX8_giveFilter_2 {X : QX} {S : QS} {a1 : Int32} {J : QJ} {post : QI → Prop} (hS : Sh S) : ∀ (f : Nat) (x2 : Int32) (I : QI), wX8_giveFilter_2 a1 post f x2 I → V X mX8_giveFilter 2 0 0 (q_Pv S (fun I2 J2 => J = J2 ∧ post I2)) 2 [(0, .ref 51), (1, .int a1), (2, .int x2)] [] S I J 0 0 := by
  intro f
  induction f with
  | zero => intro x2 I h; exact h.elim
  | succ n ih =>
    intro x2 I h
    replace h : (vp_in a1 24 ∧ (vp_in (I 56 (a1).toNatClampNeg) 24 ∧ (((I 64 ((I 56 (a1).toNatClampNeg)).toNatClampNeg) ≤ x2 → post I) ∧ (¬ (I 64 ((I 56 (a1).toNatClampNeg)).toNatClampNeg) ≤ x2 → (vp_in a1 24 ∧ (vp_in a1 24 ∧ (wX8_cellOf (I 56 (a1).toNatClampNeg) x2 (I 58 (a1).toNatClampNeg) I (fun r1 => (vp_in a1 24 ∧ (vp_in a1 24 ∧ (wX8_isTrue r1 (I 59 (a1).toNatClampNeg) (I 60 (a1).toNatClampNeg) I (fun r2 => ((r2 = 0 → (∀ v3 : Int32, v3 = (x2 + 1) → (wX8_giveFilter_2 a1 post n v3 I))) ∧ (¬ r2 = 0 → (vp_in a1 24 ∧ (wX8_copyRow a1 (I 56 (a1).toNatClampNeg) x2 0 I (fun I4 => (vp_in a1 24 ∧ (vp_in a1 24 ∧ (∀ I5 : QI, I5 = q_u2 I4 64 (a1).toNatClampNeg ((I4 64 (a1).toNatClampNeg) + 1) → (∀ v6 : Int32, v6 = (x2 + 1) → (wX8_giveFilter_2 a1 post n v6 I5)))))))))))))))))))))) := h
    refine V_iload_n dX8_giveFilter_2 rfl rfl ?_
    refine V_aload_n dX8_giveFilter_3 rfl rfl ?_
    refine V_getr dX8_giveFilter_4 fl_RX8_51 (hS.n 51 rfl) (hS.k 51 8 rfl) rfl (hS.r 51 18 64 rfl) ?_
    refine V_aload_n dX8_giveFilter_7 rfl rfl ?_
    refine V_getr dX8_giveFilter_8 fl_RX8_22 (hS.n 51 rfl) (hS.k 51 8 rfl) rfl (hS.r 51 7 56 rfl) ?_
    refine V_iload_n dX8_giveFilter_11 rfl rfl ?_
    obtain ⟨hb, h⟩ := h
    refine V_iald dX8_giveFilter_12 (hS.n 56 rfl) (hS.k 56 9 rfl) (by rw [(hS.z 56 24 rfl)]; exact hb) ?_
    obtain ⟨hb, h⟩ := h
    refine V_iald dX8_giveFilter_13 (hS.n 64 rfl) (hS.k 64 9 rfl) (by rw [(hS.z 64 24 rfl)]; exact hb) ?_
    refine V_icmp_ge 81 dX8_giveFilter_14 rfl (fun hc => ?_) (fun hc => ?_)
    · replace h := h.1 hc
      exact V_vret dX8_giveFilter_81 rfl (by decide) (by decide) ⟨rfl, rfl, rfl, h⟩
    · replace h := h.2 hc
      refine V_aload_n dX8_giveFilter_17 rfl rfl ?_
      refine V_aload_n dX8_giveFilter_18 rfl rfl ?_
      refine V_getr dX8_giveFilter_19 fl_RX8_22 (hS.n 51 rfl) (hS.k 51 8 rfl) rfl (hS.r 51 7 56 rfl) ?_
      refine V_iload_n dX8_giveFilter_22 rfl rfl ?_
      obtain ⟨hb, h⟩ := h
      refine V_iald dX8_giveFilter_23 (hS.n 56 rfl) (hS.k 56 9 rfl) (by rw [(hS.z 56 24 rfl)]; exact hb) ?_
      refine V_iload_n dX8_giveFilter_24 rfl rfl ?_
      refine V_aload_n dX8_giveFilter_25 rfl rfl ?_
      refine V_getr dX8_giveFilter_26 fl_RX8_28 (hS.n 51 rfl) (hS.k 51 8 rfl) rfl (hS.r 51 9 58 rfl) ?_
      refine V_iload_n dX8_giveFilter_29 rfl rfl ?_
      obtain ⟨hb, h⟩ := h
      refine V_iald dX8_giveFilter_30 (hS.n 58 rfl) (hS.k 58 9 rfl) (by rw [(hS.z 58 24 rfl)]; exact hb) ?_
      refine V_callVi (st := []) [.int (I 56 (a1).toNatClampNeg), .int x2, .int (I 58 (a1).toNatClampNeg)] dX8_giveFilter_31 ok_mX8_cellOf rfl ml_RX8_144 in_mX8_cellOf se_mX8_cellOf (hS.n 51 rfl) (hS.k 51 8 rfl) (by decide) rfl (Nat.le_of_ble_eq_true rfl) (by decide) (by decide) (by decide) (s_mX8_cellOf hS h) (fun r1 I9 J9 h => ?_)
      obtain ⟨rfl, rfl, h⟩ := h
      refine V_aload_n dX8_giveFilter_34 rfl rfl ?_
      refine V_getr dX8_giveFilter_35 fl_RX8_31 (hS.n 51 rfl) (hS.k 51 8 rfl) rfl (hS.r 51 10 59 rfl) ?_
      refine V_iload_n dX8_giveFilter_38 rfl rfl ?_
      obtain ⟨hb, h⟩ := h
      refine V_iald dX8_giveFilter_39 (hS.n 59 rfl) (hS.k 59 9 rfl) (by rw [(hS.z 59 24 rfl)]; exact hb) ?_
      refine V_aload_n dX8_giveFilter_40 rfl rfl ?_
      refine V_getr dX8_giveFilter_41 fl_RX8_34 (hS.n 51 rfl) (hS.k 51 8 rfl) rfl (hS.r 51 11 60 rfl) ?_
      refine V_iload_n dX8_giveFilter_44 rfl rfl ?_
      obtain ⟨hb, h⟩ := h
      refine V_iald dX8_giveFilter_45 (hS.n 60 rfl) (hS.k 60 9 rfl) (by rw [(hS.z 60 24 rfl)]; exact hb) ?_
      refine V_callSi (st := []) [.int r1, .int (I 59 (a1).toNatClampNeg), .int (I 60 (a1).toNatClampNeg)] dX8_giveFilter_46 ok_mX8_isTrue rfl ml_RX8_155 st_mX8_isTrue (Nat.le_of_ble_eq_true rfl) (by decide) (by decide) (by decide) (s_mX8_isTrue hS h) (fun r2 I9 J9 h => ?_)
      obtain ⟨rfl, rfl, h⟩ := h
      refine V_if_eq 75 dX8_giveFilter_49 rfl (fun hc => ?_) (fun hc => ?_)
      · replace h := h.1 hc
        obtain ⟨v3, e_v3⟩ : ∃ z : Int32, z = (x2 + 1) := ⟨_, rfl⟩
        replace h := h v3 e_v3
        refine V_iinc (lo2 := [(2, .int v3), (0, .ref 51), (1, .int a1)]) 2 dX8_giveFilter_75 rfl (v := v3) (by rw [e_v3]; first | done | rfl) (by decide) rfl ?_
        refine V_goto 2 dX8_giveFilter_78 rfl ?_
        refine V_sub (lo2 := [(0, .ref 51), (1, .int a1), (2, .int v3)]) [1, 2, 0] rfl ?_
        exact ih _ _ h
      · replace h := h.2 hc
        refine V_aload_n dX8_giveFilter_52 rfl rfl ?_
        refine V_iload_n dX8_giveFilter_53 rfl rfl ?_
        refine V_aload_n dX8_giveFilter_54 rfl rfl ?_
        refine V_getr dX8_giveFilter_55 fl_RX8_22 (hS.n 51 rfl) (hS.k 51 8 rfl) rfl (hS.r 51 7 56 rfl) ?_
        refine V_iload_n dX8_giveFilter_58 rfl rfl ?_
        obtain ⟨hb, h⟩ := h
        refine V_iald dX8_giveFilter_59 (hS.n 56 rfl) (hS.k 56 9 rfl) (by rw [(hS.z 56 24 rfl)]; exact hb) ?_
        refine V_iload_n dX8_giveFilter_60 rfl rfl ?_
        refine V_iconst (v := 0) dX8_giveFilter_61 (by decide) ?_
        refine V_callVv (st := []) [.int a1, .int (I 56 (a1).toNatClampNeg), .int x2, .int 0] dX8_giveFilter_62 ok_mX8_copyRow rfl ml_RX8_158 in_mX8_copyRow se_mX8_copyRow (hS.n 51 rfl) (hS.k 51 8 rfl) (by decide) rfl (Nat.le_of_ble_eq_true rfl) (by decide) (by decide) (by decide) (s_mX8_copyRow hS h) (fun I4 J9 h => ?_)
        obtain ⟨rfl, h⟩ := h
        refine V_aload_n dX8_giveFilter_65 rfl rfl ?_
        refine V_getr dX8_giveFilter_66 fl_RX8_51 (hS.n 51 rfl) (hS.k 51 8 rfl) rfl (hS.r 51 18 64 rfl) ?_
        refine V_iload_n dX8_giveFilter_69 rfl rfl ?_
        refine V_dup2 dX8_giveFilter_70 rfl rfl ?_
        obtain ⟨hb, h⟩ := h
        refine V_iald dX8_giveFilter_71 (hS.n 64 rfl) (hS.k 64 9 rfl) (by rw [(hS.z 64 24 rfl)]; exact hb) ?_
        refine V_iconst (v := 1) dX8_giveFilter_72 (by decide) ?_
        refine V_iadd dX8_giveFilter_73 ?_
        obtain ⟨hb, h⟩ := h
        refine V_iast dX8_giveFilter_74 (hS.n 64 rfl) (hS.k 64 9 rfl) (by rw [(hS.z 64 24 rfl)]; exact hb) ?_
        refine V_memI (fun I5 e_I5 => ?_)
        replace h := h I5 e_I5
        obtain ⟨v6, e_v6⟩ : ∃ z : Int32, z = (x2 + 1) := ⟨_, rfl⟩
        replace h := h v6 e_v6
        refine V_iinc (lo2 := [(2, .int v6), (0, .ref 51), (1, .int a1)]) 2 dX8_giveFilter_75 rfl (v := v6) (by rw [e_v6]; first | done | rfl) (by decide) rfl ?_
        refine V_goto 2 dX8_giveFilter_78 rfl ?_
        refine V_sub (lo2 := [(0, .ref 51), (1, .int a1), (2, .int v6)]) [1, 2, 0] rfl ?_
        exact ih _ _ h
def wX8_giveFilter (a1 : Int32) (I : QI) (post : QI → Prop) : Prop := (∃ f : Nat, wX8_giveFilter_2 a1 post f 0 I)
set_option maxRecDepth 100000 in
set_option maxHeartbeats 4000000 in
theorem s_mX8_giveFilter {X : QX} {S : QS} {a1 : Int32} {I : QI} {J : QJ} {post : QI → Prop} (hS : Sh S) (h : wX8_giveFilter a1 I post) : CX X mX8_giveFilter 2 0 0 [.ref 51, .int a1] S I J (q_Pv S (fun I2 J2 => J = J2 ∧ post I2)) := by
  refine CX.of (lo := [(0, .ref 51), (1, .int a1)]) ok_mX8_giveFilter rfl (Nat.le_of_ble_eq_true rfl) rfl ?_
  replace h : (∃ f : Nat, wX8_giveFilter_2 a1 post f 0 I) := h
  refine V_iconst (v := 0) dX8_giveFilter_0 (by decide) ?_
  refine V_istore_n (lo2 := [(2, .int 0), (0, .ref 51), (1, .int a1)]) dX8_giveFilter_1 rfl (by decide) rfl ?_
  refine V_sub (lo2 := [(0, .ref 51), (1, .int a1), (2, .int 0)]) [1, 2, 0] rfl ?_
  obtain ⟨f9, h⟩ := h
  refine swX8_giveFilter_2 hS f9 _ _ h
def wX8_groupOf_48 (a1 : Int32) (a2 : Int32) (I : QI) (K220 : Int32 → Int32 → Int32 → Int32 → Int32 → Int32 → Prop) (post : Int32 → Prop) : Nat → Int32 → Int32 → Int32 → Int32 → Int32 → Int32 → Int32 → Int32 → Prop
  | 0, _, _, _, _, _, _, _, _ => False
  | n + 1, x3, x4, x5, x6, x7, x8, x9, x10 => (vp_in a1 24 ∧ (vp_in (I 56 (a1).toNatClampNeg) 24 ∧ (((I 64 ((I 56 (a1).toNatClampNeg)).toNatClampNeg) ≤ x10 → (K220 x3 x5 x6 x7 x8 x9)) ∧ (¬ (I 64 ((I 56 (a1).toNatClampNeg)).toNatClampNeg) ≤ x10 → (vp_in a1 24 ∧ (vp_in a1 24 ∧ (wX8_cellOf (I 56 (a1).toNatClampNeg) x10 (I 58 (a1).toNatClampNeg) I (fun r3 => ((¬ r3 = x4 → (∀ v4 : Int32, v4 = (x10 + 1) → (wX8_groupOf_48 a1 a2 I K220 post n x3 x4 x5 x6 x7 x8 x9 v4))) ∧ (r3 = x4 → (vp_in a1 24 ∧ (vp_in a1 24 ∧ (wX8_cellOf (I 56 (a1).toNatClampNeg) x10 (I 60 (a1).toNatClampNeg) I (fun r5 => ((r5 = (-1000) → (∀ v6 : Int32, v6 = (x5 + 1) → (∀ v7 : Int32, v7 = (x6 + 0) → (∀ v8 : Int32, v8 = (x7 + 0) → (∀ v9 : Int32, v9 = (x10 + 1) → (wX8_groupOf_48 a1 a2 I K220 post n x3 x4 v6 v7 v8 x8 x9 v9)))))) ∧ (¬ r5 = (-1000) → (∀ v10 : Int32, v10 = (x5 + 1) → (∀ v11 : Int32, v11 = (x6 + 1) → (∀ v12 : Int32, v12 = (x7 + r5) → ((x8 = (-1000) → ((x9 = (-1000) → (∀ v13 : Int32, v13 = (x10 + 1) → (wX8_groupOf_48 a1 a2 I K220 post n x3 x4 v10 v11 v12 r5 r5 v13))) ∧ (¬ x9 = (-1000) → ((r5 ≤ x9 → (∀ v14 : Int32, v14 = (x10 + 1) → (wX8_groupOf_48 a1 a2 I K220 post n x3 x4 v10 v11 v12 r5 x9 v14))) ∧ (¬ r5 ≤ x9 → (∀ v15 : Int32, v15 = (x10 + 1) → (wX8_groupOf_48 a1 a2 I K220 post n x3 x4 v10 v11 v12 r5 r5 v15))))))) ∧ (¬ x8 = (-1000) → ((x8 ≤ r5 → ((x9 = (-1000) → (∀ v16 : Int32, v16 = (x10 + 1) → (wX8_groupOf_48 a1 a2 I K220 post n x3 x4 v10 v11 v12 x8 r5 v16))) ∧ (¬ x9 = (-1000) → ((r5 ≤ x9 → (∀ v17 : Int32, v17 = (x10 + 1) → (wX8_groupOf_48 a1 a2 I K220 post n x3 x4 v10 v11 v12 x8 x9 v17))) ∧ (¬ r5 ≤ x9 → (∀ v18 : Int32, v18 = (x10 + 1) → (wX8_groupOf_48 a1 a2 I K220 post n x3 x4 v10 v11 v12 x8 r5 v18))))))) ∧ (¬ x8 ≤ r5 → ((x9 = (-1000) → (∀ v19 : Int32, v19 = (x10 + 1) → (wX8_groupOf_48 a1 a2 I K220 post n x3 x4 v10 v11 v12 r5 r5 v19))) ∧ (¬ x9 = (-1000) → ((r5 ≤ x9 → (∀ v20 : Int32, v20 = (x10 + 1) → (wX8_groupOf_48 a1 a2 I K220 post n x3 x4 v10 v11 v12 r5 x9 v20))) ∧ (¬ r5 ≤ x9 → (∀ v21 : Int32, v21 = (x10 + 1) → (wX8_groupOf_48 a1 a2 I K220 post n x3 x4 v10 v11 v12 r5 r5 v21)))))))))))))))))))))))))))))
set_option maxRecDepth 100000 in
set_option maxHeartbeats 4000000 in
theorem swX8_groupOf_48 {X : QX} {S : QS} {a1 : Int32} {a2 : Int32} {I : QI} {J : QJ} {K220 : Int32 → Int32 → Int32 → Int32 → Int32 → Int32 → Prop} {post : Int32 → Prop} (hS : Sh S) (hK220 : ∀ (z3 : Int32) (z5 : Int32) (z6 : Int32) (z7 : Int32) (z8 : Int32) (z9 : Int32), K220 z3 z5 z6 z7 z8 z9 → V X mX8_groupOf 1 0 0 (q_Pi S (fun r I2 J2 => I = I2 ∧ J = J2 ∧ post r)) 220 [(3, .int z3), (5, .int z5), (6, .int z6), (7, .int z7), (8, .int z8), (9, .int z9)] [] S I J 0 0) : ∀ (f : Nat) (x3 : Int32) (x4 : Int32) (x5 : Int32) (x6 : Int32) (x7 : Int32) (x8 : Int32) (x9 : Int32) (x10 : Int32), wX8_groupOf_48 a1 a2 I K220 post f x3 x4 x5 x6 x7 x8 x9 x10 → V X mX8_groupOf 1 0 0 (q_Pi S (fun r I2 J2 => I = I2 ∧ J = J2 ∧ post r)) 48 [(0, .ref 51), (1, .int a1), (3, .int x3), (4, .int x4), (5, .int x5), (6, .int x6), (7, .int x7), (8, .int x8), (9, .int x9), (10, .int x10)] [] S I J 0 0 := by
  intro f
  induction f with
  | zero => intro x3 x4 x5 x6 x7 x8 x9 x10 h; exact h.elim
  | succ n ih =>
    intro x3 x4 x5 x6 x7 x8 x9 x10 h
    replace h : (vp_in a1 24 ∧ (vp_in (I 56 (a1).toNatClampNeg) 24 ∧ (((I 64 ((I 56 (a1).toNatClampNeg)).toNatClampNeg) ≤ x10 → (K220 x3 x5 x6 x7 x8 x9)) ∧ (¬ (I 64 ((I 56 (a1).toNatClampNeg)).toNatClampNeg) ≤ x10 → (vp_in a1 24 ∧ (vp_in a1 24 ∧ (wX8_cellOf (I 56 (a1).toNatClampNeg) x10 (I 58 (a1).toNatClampNeg) I (fun r3 => ((¬ r3 = x4 → (∀ v4 : Int32, v4 = (x10 + 1) → (wX8_groupOf_48 a1 a2 I K220 post n x3 x4 x5 x6 x7 x8 x9 v4))) ∧ (r3 = x4 → (vp_in a1 24 ∧ (vp_in a1 24 ∧ (wX8_cellOf (I 56 (a1).toNatClampNeg) x10 (I 60 (a1).toNatClampNeg) I (fun r5 => ((r5 = (-1000) → (∀ v6 : Int32, v6 = (x5 + 1) → (∀ v7 : Int32, v7 = (x6 + 0) → (∀ v8 : Int32, v8 = (x7 + 0) → (∀ v9 : Int32, v9 = (x10 + 1) → (wX8_groupOf_48 a1 a2 I K220 post n x3 x4 v6 v7 v8 x8 x9 v9)))))) ∧ (¬ r5 = (-1000) → (∀ v10 : Int32, v10 = (x5 + 1) → (∀ v11 : Int32, v11 = (x6 + 1) → (∀ v12 : Int32, v12 = (x7 + r5) → ((x8 = (-1000) → ((x9 = (-1000) → (∀ v13 : Int32, v13 = (x10 + 1) → (wX8_groupOf_48 a1 a2 I K220 post n x3 x4 v10 v11 v12 r5 r5 v13))) ∧ (¬ x9 = (-1000) → ((r5 ≤ x9 → (∀ v14 : Int32, v14 = (x10 + 1) → (wX8_groupOf_48 a1 a2 I K220 post n x3 x4 v10 v11 v12 r5 x9 v14))) ∧ (¬ r5 ≤ x9 → (∀ v15 : Int32, v15 = (x10 + 1) → (wX8_groupOf_48 a1 a2 I K220 post n x3 x4 v10 v11 v12 r5 r5 v15))))))) ∧ (¬ x8 = (-1000) → ((x8 ≤ r5 → ((x9 = (-1000) → (∀ v16 : Int32, v16 = (x10 + 1) → (wX8_groupOf_48 a1 a2 I K220 post n x3 x4 v10 v11 v12 x8 r5 v16))) ∧ (¬ x9 = (-1000) → ((r5 ≤ x9 → (∀ v17 : Int32, v17 = (x10 + 1) → (wX8_groupOf_48 a1 a2 I K220 post n x3 x4 v10 v11 v12 x8 x9 v17))) ∧ (¬ r5 ≤ x9 → (∀ v18 : Int32, v18 = (x10 + 1) → (wX8_groupOf_48 a1 a2 I K220 post n x3 x4 v10 v11 v12 x8 r5 v18))))))) ∧ (¬ x8 ≤ r5 → ((x9 = (-1000) → (∀ v19 : Int32, v19 = (x10 + 1) → (wX8_groupOf_48 a1 a2 I K220 post n x3 x4 v10 v11 v12 r5 r5 v19))) ∧ (¬ x9 = (-1000) → ((r5 ≤ x9 → (∀ v20 : Int32, v20 = (x10 + 1) → (wX8_groupOf_48 a1 a2 I K220 post n x3 x4 v10 v11 v12 r5 x9 v20))) ∧ (¬ r5 ≤ x9 → (∀ v21 : Int32, v21 = (x10 + 1) → (wX8_groupOf_48 a1 a2 I K220 post n x3 x4 v10 v11 v12 r5 r5 v21))))))))))))))))))))))))))))) := h
    refine V_iload dX8_groupOf_48 rfl ?_
    refine V_aload_n dX8_groupOf_50 rfl rfl ?_
    refine V_getr dX8_groupOf_51 fl_RX8_51 (hS.n 51 rfl) (hS.k 51 8 rfl) rfl (hS.r 51 18 64 rfl) ?_
    refine V_aload_n dX8_groupOf_54 rfl rfl ?_
    refine V_getr dX8_groupOf_55 fl_RX8_22 (hS.n 51 rfl) (hS.k 51 8 rfl) rfl (hS.r 51 7 56 rfl) ?_
    refine V_iload_n dX8_groupOf_58 rfl rfl ?_
    obtain ⟨hb, h⟩ := h
    refine V_iald dX8_groupOf_59 (hS.n 56 rfl) (hS.k 56 9 rfl) (by rw [(hS.z 56 24 rfl)]; exact hb) ?_
    obtain ⟨hb, h⟩ := h
    refine V_iald dX8_groupOf_60 (hS.n 64 rfl) (hS.k 64 9 rfl) (by rw [(hS.z 64 24 rfl)]; exact hb) ?_
    refine V_icmp_ge 220 dX8_groupOf_61 rfl (fun hc => ?_) (fun hc => ?_)
    · replace h := h.1 hc
      refine V_sub (lo2 := [(3, .int x3), (5, .int x5), (6, .int x6), (7, .int x7), (8, .int x8), (9, .int x9)]) [2, 4, 5, 6, 7, 8] rfl ?_
      exact hK220 _ _ _ _ _ _ h
    · replace h := h.2 hc
      refine V_aload_n dX8_groupOf_64 rfl rfl ?_
      refine V_aload_n dX8_groupOf_65 rfl rfl ?_
      refine V_getr dX8_groupOf_66 fl_RX8_22 (hS.n 51 rfl) (hS.k 51 8 rfl) rfl (hS.r 51 7 56 rfl) ?_
      refine V_iload_n dX8_groupOf_69 rfl rfl ?_
      obtain ⟨hb, h⟩ := h
      refine V_iald dX8_groupOf_70 (hS.n 56 rfl) (hS.k 56 9 rfl) (by rw [(hS.z 56 24 rfl)]; exact hb) ?_
      refine V_iload dX8_groupOf_71 rfl ?_
      refine V_aload_n dX8_groupOf_73 rfl rfl ?_
      refine V_getr dX8_groupOf_74 fl_RX8_28 (hS.n 51 rfl) (hS.k 51 8 rfl) rfl (hS.r 51 9 58 rfl) ?_
      refine V_iload_n dX8_groupOf_77 rfl rfl ?_
      obtain ⟨hb, h⟩ := h
      refine V_iald dX8_groupOf_78 (hS.n 58 rfl) (hS.k 58 9 rfl) (by rw [(hS.z 58 24 rfl)]; exact hb) ?_
      refine V_callVi (st := []) [.int (I 56 (a1).toNatClampNeg), .int x10, .int (I 58 (a1).toNatClampNeg)] dX8_groupOf_79 ok_mX8_cellOf rfl ml_RX8_144 in_mX8_cellOf se_mX8_cellOf (hS.n 51 rfl) (hS.k 51 8 rfl) (by decide) rfl (Nat.le_of_ble_eq_true rfl) (by decide) (by decide) (by decide) (s_mX8_cellOf hS h) (fun r3 I9 J9 h => ?_)
      obtain ⟨rfl, rfl, h⟩ := h
      refine V_iload dX8_groupOf_82 rfl ?_
      refine V_icmp_ne 214 dX8_groupOf_84 rfl (fun hc => ?_) (fun hc => ?_)
      · replace h := h.1 hc
        obtain ⟨v4, e_v4⟩ : ∃ z : Int32, z = (x10 + 1) := ⟨_, rfl⟩
        replace h := h v4 e_v4
        refine V_iinc (lo2 := [(10, .int v4), (0, .ref 51), (1, .int a1), (3, .int x3), (4, .int x4), (5, .int x5), (6, .int x6), (7, .int x7), (8, .int x8), (9, .int x9)]) 9 dX8_groupOf_214 rfl (v := v4) (by rw [e_v4]; first | done | rfl) (by decide) rfl ?_
        refine V_goto 48 dX8_groupOf_217 rfl ?_
        refine V_sub (lo2 := [(0, .ref 51), (1, .int a1), (3, .int x3), (4, .int x4), (5, .int x5), (6, .int x6), (7, .int x7), (8, .int x8), (9, .int x9), (10, .int v4)]) [1, 2, 3, 4, 5, 6, 7, 8, 9, 0] rfl ?_
        exact ih _ _ _ _ _ _ _ _ h
      · replace h := h.2 hc
        refine V_aload_n dX8_groupOf_87 rfl rfl ?_
        refine V_aload_n dX8_groupOf_88 rfl rfl ?_
        refine V_getr dX8_groupOf_89 fl_RX8_22 (hS.n 51 rfl) (hS.k 51 8 rfl) rfl (hS.r 51 7 56 rfl) ?_
        refine V_iload_n dX8_groupOf_92 rfl rfl ?_
        obtain ⟨hb, h⟩ := h
        refine V_iald dX8_groupOf_93 (hS.n 56 rfl) (hS.k 56 9 rfl) (by rw [(hS.z 56 24 rfl)]; exact hb) ?_
        refine V_iload dX8_groupOf_94 rfl ?_
        refine V_aload_n dX8_groupOf_96 rfl rfl ?_
        refine V_getr dX8_groupOf_97 fl_RX8_34 (hS.n 51 rfl) (hS.k 51 8 rfl) rfl (hS.r 51 11 60 rfl) ?_
        refine V_iload_n dX8_groupOf_100 rfl rfl ?_
        obtain ⟨hb, h⟩ := h
        refine V_iald dX8_groupOf_101 (hS.n 60 rfl) (hS.k 60 9 rfl) (by rw [(hS.z 60 24 rfl)]; exact hb) ?_
        refine V_callVi (st := []) [.int (I 56 (a1).toNatClampNeg), .int x10, .int (I 60 (a1).toNatClampNeg)] dX8_groupOf_102 ok_mX8_cellOf rfl ml_RX8_144 in_mX8_cellOf se_mX8_cellOf (hS.n 51 rfl) (hS.k 51 8 rfl) (by decide) rfl (Nat.le_of_ble_eq_true rfl) (by decide) (by decide) (by decide) (s_mX8_cellOf hS h) (fun r5 I9 J9 h => ?_)
        obtain ⟨rfl, rfl, h⟩ := h
        refine V_istore (lo2 := [(11, .int r5), (0, .ref 51), (1, .int a1), (3, .int x3), (4, .int x4), (5, .int x5), (6, .int x6), (7, .int x7), (8, .int x8), (9, .int x9), (10, .int x10)]) dX8_groupOf_105 (by decide) rfl ?_
        refine V_iload dX8_groupOf_107 rfl ?_
        refine V_sipush (v := (-1000)) dX8_groupOf_109 (by decide) ?_
        refine V_icmp_eq 119 dX8_groupOf_112 rfl (fun hc => ?_) (fun hc => ?_)
        · replace h := h.1 hc
          refine V_iconst (v := 0) dX8_groupOf_119 (by decide) ?_
          refine V_istore (lo2 := [(12, .int 0), (11, .int r5), (0, .ref 51), (1, .int a1), (3, .int x3), (4, .int x4), (5, .int x5), (6, .int x6), (7, .int x7), (8, .int x8), (9, .int x9), (10, .int x10)]) dX8_groupOf_120 (by decide) rfl ?_
          obtain ⟨v6, e_v6⟩ : ∃ z : Int32, z = (x5 + 1) := ⟨_, rfl⟩
          replace h := h v6 e_v6
          refine V_iinc (lo2 := [(5, .int v6), (12, .int 0), (11, .int r5), (0, .ref 51), (1, .int a1), (3, .int x3), (4, .int x4), (6, .int x6), (7, .int x7), (8, .int x8), (9, .int x9), (10, .int x10)]) 6 dX8_groupOf_122 rfl (v := v6) (by rw [e_v6]; first | done | rfl) (by decide) rfl ?_
          refine V_iload dX8_groupOf_125 rfl ?_
          refine V_iload dX8_groupOf_127 rfl ?_
          refine V_if_eq 136 dX8_groupOf_129 rfl (fun hc => ?_) (fun hc => ?_)
          · refine V_iconst (v := 0) dX8_groupOf_136 (by decide) ?_
            refine V_iadd dX8_groupOf_137 ?_
            refine V_topi (fun v7 e_v7 => ?_)
            replace h := h v7 e_v7
            refine V_istore (lo2 := [(6, .int v7), (5, .int v6), (12, .int 0), (11, .int r5), (0, .ref 51), (1, .int a1), (3, .int x3), (4, .int x4), (7, .int x7), (8, .int x8), (9, .int x9), (10, .int x10)]) dX8_groupOf_138 (by decide) rfl ?_
            refine V_iload dX8_groupOf_140 rfl ?_
            refine V_iload dX8_groupOf_142 rfl ?_
            refine V_if_eq 152 dX8_groupOf_144 rfl (fun hc => ?_) (fun hc => ?_)
            · refine V_iconst (v := 0) dX8_groupOf_152 (by decide) ?_
              refine V_iadd dX8_groupOf_153 ?_
              refine V_topi (fun v8 e_v8 => ?_)
              replace h := h v8 e_v8
              refine V_istore (lo2 := [(7, .int v8), (6, .int v7), (5, .int v6), (12, .int 0), (11, .int r5), (0, .ref 51), (1, .int a1), (3, .int x3), (4, .int x4), (8, .int x8), (9, .int x9), (10, .int x10)]) dX8_groupOf_154 (by decide) rfl ?_
              refine V_iload dX8_groupOf_156 rfl ?_
              refine V_if_eq 181 dX8_groupOf_158 rfl (fun hc => ?_) (fun hc => ?_)
              · refine V_iload dX8_groupOf_181 rfl ?_
                refine V_istore (lo2 := [(8, .int x8), (7, .int v8), (6, .int v7), (5, .int v6), (12, .int 0), (11, .int r5), (0, .ref 51), (1, .int a1), (3, .int x3), (4, .int x4), (9, .int x9), (10, .int x10)]) dX8_groupOf_183 (by decide) rfl ?_
                refine V_iload dX8_groupOf_185 rfl ?_
                refine V_if_eq 210 dX8_groupOf_187 rfl (fun hc => ?_) (fun hc => ?_)
                · refine V_iload dX8_groupOf_210 rfl ?_
                  refine V_istore (lo2 := [(9, .int x9), (8, .int x8), (7, .int v8), (6, .int v7), (5, .int v6), (12, .int 0), (11, .int r5), (0, .ref 51), (1, .int a1), (3, .int x3), (4, .int x4), (10, .int x10)]) dX8_groupOf_212 (by decide) rfl ?_
                  obtain ⟨v9, e_v9⟩ : ∃ z : Int32, z = (x10 + 1) := ⟨_, rfl⟩
                  replace h := h v9 e_v9
                  refine V_iinc (lo2 := [(10, .int v9), (9, .int x9), (8, .int x8), (7, .int v8), (6, .int v7), (5, .int v6), (12, .int 0), (11, .int r5), (0, .ref 51), (1, .int a1), (3, .int x3), (4, .int x4)]) 11 dX8_groupOf_214 rfl (v := v9) (by rw [e_v9]; first | done | rfl) (by decide) rfl ?_
                  refine V_goto 48 dX8_groupOf_217 rfl ?_
                  refine V_sub (lo2 := [(0, .ref 51), (1, .int a1), (3, .int x3), (4, .int x4), (5, .int v6), (6, .int v7), (7, .int v8), (8, .int x8), (9, .int x9), (10, .int v9)]) [8, 9, 10, 11, 5, 4, 3, 2, 1, 0] rfl ?_
                  exact ih _ _ _ _ _ _ _ _ h
                · first | exact absurd hc (by decide) | exact absurd (by decide) hc
              · first | exact absurd hc (by decide) | exact absurd (by decide) hc
            · first | exact absurd hc (by decide) | exact absurd (by decide) hc
          · first | exact absurd hc (by decide) | exact absurd (by decide) hc
        · replace h := h.2 hc
          refine V_iconst (v := 1) dX8_groupOf_115 (by decide) ?_
          refine V_goto 120 dX8_groupOf_116 rfl ?_
          refine V_istore (lo2 := [(12, .int 1), (11, .int r5), (0, .ref 51), (1, .int a1), (3, .int x3), (4, .int x4), (5, .int x5), (6, .int x6), (7, .int x7), (8, .int x8), (9, .int x9), (10, .int x10)]) dX8_groupOf_120 (by decide) rfl ?_
          obtain ⟨v10, e_v10⟩ : ∃ z : Int32, z = (x5 + 1) := ⟨_, rfl⟩
          replace h := h v10 e_v10
          refine V_iinc (lo2 := [(5, .int v10), (12, .int 1), (11, .int r5), (0, .ref 51), (1, .int a1), (3, .int x3), (4, .int x4), (6, .int x6), (7, .int x7), (8, .int x8), (9, .int x9), (10, .int x10)]) 6 dX8_groupOf_122 rfl (v := v10) (by rw [e_v10]; first | done | rfl) (by decide) rfl ?_
          refine V_iload dX8_groupOf_125 rfl ?_
          refine V_iload dX8_groupOf_127 rfl ?_
          refine V_if_eq 136 dX8_groupOf_129 rfl (fun hc => ?_) (fun hc => ?_)
          · first | exact absurd hc (by decide) | exact absurd (by decide) hc
          · refine V_iconst (v := 1) dX8_groupOf_132 (by decide) ?_
            refine V_goto 137 dX8_groupOf_133 rfl ?_
            refine V_iadd dX8_groupOf_137 ?_
            refine V_topi (fun v11 e_v11 => ?_)
            replace h := h v11 e_v11
            refine V_istore (lo2 := [(6, .int v11), (5, .int v10), (12, .int 1), (11, .int r5), (0, .ref 51), (1, .int a1), (3, .int x3), (4, .int x4), (7, .int x7), (8, .int x8), (9, .int x9), (10, .int x10)]) dX8_groupOf_138 (by decide) rfl ?_
            refine V_iload dX8_groupOf_140 rfl ?_
            refine V_iload dX8_groupOf_142 rfl ?_
            refine V_if_eq 152 dX8_groupOf_144 rfl (fun hc => ?_) (fun hc => ?_)
            · first | exact absurd hc (by decide) | exact absurd (by decide) hc
            · refine V_iload dX8_groupOf_147 rfl ?_
              refine V_goto 153 dX8_groupOf_149 rfl ?_
              refine V_iadd dX8_groupOf_153 ?_
              refine V_topi (fun v12 e_v12 => ?_)
              replace h := h v12 e_v12
              refine V_istore (lo2 := [(7, .int v12), (6, .int v11), (5, .int v10), (12, .int 1), (11, .int r5), (0, .ref 51), (1, .int a1), (3, .int x3), (4, .int x4), (8, .int x8), (9, .int x9), (10, .int x10)]) dX8_groupOf_154 (by decide) rfl ?_
              refine V_iload dX8_groupOf_156 rfl ?_
              refine V_if_eq 181 dX8_groupOf_158 rfl (fun hc => ?_) (fun hc => ?_)
              · first | exact absurd hc (by decide) | exact absurd (by decide) hc
              · refine V_iload dX8_groupOf_161 rfl ?_
                refine V_sipush (v := (-1000)) dX8_groupOf_163 (by decide) ?_
                refine V_icmp_eq 176 dX8_groupOf_166 rfl (fun hc => ?_) (fun hc => ?_)
                · replace h := h.1 hc
                  refine V_iload dX8_groupOf_176 rfl ?_
                  refine V_goto 183 dX8_groupOf_178 rfl ?_
                  refine V_istore (lo2 := [(8, .int r5), (7, .int v12), (6, .int v11), (5, .int v10), (12, .int 1), (11, .int r5), (0, .ref 51), (1, .int a1), (3, .int x3), (4, .int x4), (9, .int x9), (10, .int x10)]) dX8_groupOf_183 (by decide) rfl ?_
                  refine V_iload dX8_groupOf_185 rfl ?_
                  refine V_if_eq 210 dX8_groupOf_187 rfl (fun hc => ?_) (fun hc => ?_)
                  · first | exact absurd hc (by decide) | exact absurd (by decide) hc
                  · refine V_iload dX8_groupOf_190 rfl ?_
                    refine V_sipush (v := (-1000)) dX8_groupOf_192 (by decide) ?_
                    refine V_icmp_eq 205 dX8_groupOf_195 rfl (fun hc => ?_) (fun hc => ?_)
                    · replace h := h.1 hc
                      refine V_iload dX8_groupOf_205 rfl ?_
                      refine V_goto 212 dX8_groupOf_207 rfl ?_
                      refine V_istore (lo2 := [(9, .int r5), (8, .int r5), (7, .int v12), (6, .int v11), (5, .int v10), (12, .int 1), (11, .int r5), (0, .ref 51), (1, .int a1), (3, .int x3), (4, .int x4), (10, .int x10)]) dX8_groupOf_212 (by decide) rfl ?_
                      obtain ⟨v13, e_v13⟩ : ∃ z : Int32, z = (x10 + 1) := ⟨_, rfl⟩
                      replace h := h v13 e_v13
                      refine V_iinc (lo2 := [(10, .int v13), (9, .int r5), (8, .int r5), (7, .int v12), (6, .int v11), (5, .int v10), (12, .int 1), (11, .int r5), (0, .ref 51), (1, .int a1), (3, .int x3), (4, .int x4)]) 11 dX8_groupOf_214 rfl (v := v13) (by rw [e_v13]; first | done | rfl) (by decide) rfl ?_
                      refine V_goto 48 dX8_groupOf_217 rfl ?_
                      refine V_sub (lo2 := [(0, .ref 51), (1, .int a1), (3, .int x3), (4, .int x4), (5, .int v10), (6, .int v11), (7, .int v12), (8, .int r5), (9, .int r5), (10, .int v13)]) [8, 9, 10, 11, 5, 4, 3, 2, 1, 0] rfl ?_
                      exact ih _ _ _ _ _ _ _ _ h
                    · replace h := h.2 hc
                      refine V_iload dX8_groupOf_198 rfl ?_
                      refine V_iload dX8_groupOf_200 rfl ?_
                      refine V_icmp_le 210 dX8_groupOf_202 rfl (fun hc => ?_) (fun hc => ?_)
                      · replace h := h.1 hc
                        refine V_iload dX8_groupOf_210 rfl ?_
                        refine V_istore (lo2 := [(9, .int x9), (8, .int r5), (7, .int v12), (6, .int v11), (5, .int v10), (12, .int 1), (11, .int r5), (0, .ref 51), (1, .int a1), (3, .int x3), (4, .int x4), (10, .int x10)]) dX8_groupOf_212 (by decide) rfl ?_
                        obtain ⟨v14, e_v14⟩ : ∃ z : Int32, z = (x10 + 1) := ⟨_, rfl⟩
                        replace h := h v14 e_v14
                        refine V_iinc (lo2 := [(10, .int v14), (9, .int x9), (8, .int r5), (7, .int v12), (6, .int v11), (5, .int v10), (12, .int 1), (11, .int r5), (0, .ref 51), (1, .int a1), (3, .int x3), (4, .int x4)]) 11 dX8_groupOf_214 rfl (v := v14) (by rw [e_v14]; first | done | rfl) (by decide) rfl ?_
                        refine V_goto 48 dX8_groupOf_217 rfl ?_
                        refine V_sub (lo2 := [(0, .ref 51), (1, .int a1), (3, .int x3), (4, .int x4), (5, .int v10), (6, .int v11), (7, .int v12), (8, .int r5), (9, .int x9), (10, .int v14)]) [8, 9, 10, 11, 5, 4, 3, 2, 1, 0] rfl ?_
                        exact ih _ _ _ _ _ _ _ _ h
                      · replace h := h.2 hc
                        refine V_iload dX8_groupOf_205 rfl ?_
                        refine V_goto 212 dX8_groupOf_207 rfl ?_
                        refine V_istore (lo2 := [(9, .int r5), (8, .int r5), (7, .int v12), (6, .int v11), (5, .int v10), (12, .int 1), (11, .int r5), (0, .ref 51), (1, .int a1), (3, .int x3), (4, .int x4), (10, .int x10)]) dX8_groupOf_212 (by decide) rfl ?_
                        obtain ⟨v15, e_v15⟩ : ∃ z : Int32, z = (x10 + 1) := ⟨_, rfl⟩
                        replace h := h v15 e_v15
                        refine V_iinc (lo2 := [(10, .int v15), (9, .int r5), (8, .int r5), (7, .int v12), (6, .int v11), (5, .int v10), (12, .int 1), (11, .int r5), (0, .ref 51), (1, .int a1), (3, .int x3), (4, .int x4)]) 11 dX8_groupOf_214 rfl (v := v15) (by rw [e_v15]; first | done | rfl) (by decide) rfl ?_
                        refine V_goto 48 dX8_groupOf_217 rfl ?_
                        refine V_sub (lo2 := [(0, .ref 51), (1, .int a1), (3, .int x3), (4, .int x4), (5, .int v10), (6, .int v11), (7, .int v12), (8, .int r5), (9, .int r5), (10, .int v15)]) [8, 9, 10, 11, 5, 4, 3, 2, 1, 0] rfl ?_
                        exact ih _ _ _ _ _ _ _ _ h
                · replace h := h.2 hc
                  refine V_iload dX8_groupOf_169 rfl ?_
                  refine V_iload dX8_groupOf_171 rfl ?_
                  refine V_icmp_ge 181 dX8_groupOf_173 rfl (fun hc => ?_) (fun hc => ?_)
                  · replace h := h.1 hc
                    refine V_iload dX8_groupOf_181 rfl ?_
                    refine V_istore (lo2 := [(8, .int x8), (7, .int v12), (6, .int v11), (5, .int v10), (12, .int 1), (11, .int r5), (0, .ref 51), (1, .int a1), (3, .int x3), (4, .int x4), (9, .int x9), (10, .int x10)]) dX8_groupOf_183 (by decide) rfl ?_
                    refine V_iload dX8_groupOf_185 rfl ?_
                    refine V_if_eq 210 dX8_groupOf_187 rfl (fun hc => ?_) (fun hc => ?_)
                    · first | exact absurd hc (by decide) | exact absurd (by decide) hc
                    · refine V_iload dX8_groupOf_190 rfl ?_
                      refine V_sipush (v := (-1000)) dX8_groupOf_192 (by decide) ?_
                      refine V_icmp_eq 205 dX8_groupOf_195 rfl (fun hc => ?_) (fun hc => ?_)
                      · replace h := h.1 hc
                        refine V_iload dX8_groupOf_205 rfl ?_
                        refine V_goto 212 dX8_groupOf_207 rfl ?_
                        refine V_istore (lo2 := [(9, .int r5), (8, .int x8), (7, .int v12), (6, .int v11), (5, .int v10), (12, .int 1), (11, .int r5), (0, .ref 51), (1, .int a1), (3, .int x3), (4, .int x4), (10, .int x10)]) dX8_groupOf_212 (by decide) rfl ?_
                        obtain ⟨v16, e_v16⟩ : ∃ z : Int32, z = (x10 + 1) := ⟨_, rfl⟩
                        replace h := h v16 e_v16
                        refine V_iinc (lo2 := [(10, .int v16), (9, .int r5), (8, .int x8), (7, .int v12), (6, .int v11), (5, .int v10), (12, .int 1), (11, .int r5), (0, .ref 51), (1, .int a1), (3, .int x3), (4, .int x4)]) 11 dX8_groupOf_214 rfl (v := v16) (by rw [e_v16]; first | done | rfl) (by decide) rfl ?_
                        refine V_goto 48 dX8_groupOf_217 rfl ?_
                        refine V_sub (lo2 := [(0, .ref 51), (1, .int a1), (3, .int x3), (4, .int x4), (5, .int v10), (6, .int v11), (7, .int v12), (8, .int x8), (9, .int r5), (10, .int v16)]) [8, 9, 10, 11, 5, 4, 3, 2, 1, 0] rfl ?_
                        exact ih _ _ _ _ _ _ _ _ h
                      · replace h := h.2 hc
                        refine V_iload dX8_groupOf_198 rfl ?_
                        refine V_iload dX8_groupOf_200 rfl ?_
                        refine V_icmp_le 210 dX8_groupOf_202 rfl (fun hc => ?_) (fun hc => ?_)
                        · replace h := h.1 hc
                          refine V_iload dX8_groupOf_210 rfl ?_
                          refine V_istore (lo2 := [(9, .int x9), (8, .int x8), (7, .int v12), (6, .int v11), (5, .int v10), (12, .int 1), (11, .int r5), (0, .ref 51), (1, .int a1), (3, .int x3), (4, .int x4), (10, .int x10)]) dX8_groupOf_212 (by decide) rfl ?_
                          obtain ⟨v17, e_v17⟩ : ∃ z : Int32, z = (x10 + 1) := ⟨_, rfl⟩
                          replace h := h v17 e_v17
                          refine V_iinc (lo2 := [(10, .int v17), (9, .int x9), (8, .int x8), (7, .int v12), (6, .int v11), (5, .int v10), (12, .int 1), (11, .int r5), (0, .ref 51), (1, .int a1), (3, .int x3), (4, .int x4)]) 11 dX8_groupOf_214 rfl (v := v17) (by rw [e_v17]; first | done | rfl) (by decide) rfl ?_
                          refine V_goto 48 dX8_groupOf_217 rfl ?_
                          refine V_sub (lo2 := [(0, .ref 51), (1, .int a1), (3, .int x3), (4, .int x4), (5, .int v10), (6, .int v11), (7, .int v12), (8, .int x8), (9, .int x9), (10, .int v17)]) [8, 9, 10, 11, 5, 4, 3, 2, 1, 0] rfl ?_
                          exact ih _ _ _ _ _ _ _ _ h
                        · replace h := h.2 hc
                          refine V_iload dX8_groupOf_205 rfl ?_
                          refine V_goto 212 dX8_groupOf_207 rfl ?_
                          refine V_istore (lo2 := [(9, .int r5), (8, .int x8), (7, .int v12), (6, .int v11), (5, .int v10), (12, .int 1), (11, .int r5), (0, .ref 51), (1, .int a1), (3, .int x3), (4, .int x4), (10, .int x10)]) dX8_groupOf_212 (by decide) rfl ?_
                          obtain ⟨v18, e_v18⟩ : ∃ z : Int32, z = (x10 + 1) := ⟨_, rfl⟩
                          replace h := h v18 e_v18
                          refine V_iinc (lo2 := [(10, .int v18), (9, .int r5), (8, .int x8), (7, .int v12), (6, .int v11), (5, .int v10), (12, .int 1), (11, .int r5), (0, .ref 51), (1, .int a1), (3, .int x3), (4, .int x4)]) 11 dX8_groupOf_214 rfl (v := v18) (by rw [e_v18]; first | done | rfl) (by decide) rfl ?_
                          refine V_goto 48 dX8_groupOf_217 rfl ?_
                          refine V_sub (lo2 := [(0, .ref 51), (1, .int a1), (3, .int x3), (4, .int x4), (5, .int v10), (6, .int v11), (7, .int v12), (8, .int x8), (9, .int r5), (10, .int v18)]) [8, 9, 10, 11, 5, 4, 3, 2, 1, 0] rfl ?_
                          exact ih _ _ _ _ _ _ _ _ h
                  · replace h := h.2 hc
                    refine V_iload dX8_groupOf_176 rfl ?_
                    refine V_goto 183 dX8_groupOf_178 rfl ?_
                    refine V_istore (lo2 := [(8, .int r5), (7, .int v12), (6, .int v11), (5, .int v10), (12, .int 1), (11, .int r5), (0, .ref 51), (1, .int a1), (3, .int x3), (4, .int x4), (9, .int x9), (10, .int x10)]) dX8_groupOf_183 (by decide) rfl ?_
                    refine V_iload dX8_groupOf_185 rfl ?_
                    refine V_if_eq 210 dX8_groupOf_187 rfl (fun hc => ?_) (fun hc => ?_)
                    · first | exact absurd hc (by decide) | exact absurd (by decide) hc
                    · refine V_iload dX8_groupOf_190 rfl ?_
                      refine V_sipush (v := (-1000)) dX8_groupOf_192 (by decide) ?_
                      refine V_icmp_eq 205 dX8_groupOf_195 rfl (fun hc => ?_) (fun hc => ?_)
                      · replace h := h.1 hc
                        refine V_iload dX8_groupOf_205 rfl ?_
                        refine V_goto 212 dX8_groupOf_207 rfl ?_
                        refine V_istore (lo2 := [(9, .int r5), (8, .int r5), (7, .int v12), (6, .int v11), (5, .int v10), (12, .int 1), (11, .int r5), (0, .ref 51), (1, .int a1), (3, .int x3), (4, .int x4), (10, .int x10)]) dX8_groupOf_212 (by decide) rfl ?_
                        obtain ⟨v19, e_v19⟩ : ∃ z : Int32, z = (x10 + 1) := ⟨_, rfl⟩
                        replace h := h v19 e_v19
                        refine V_iinc (lo2 := [(10, .int v19), (9, .int r5), (8, .int r5), (7, .int v12), (6, .int v11), (5, .int v10), (12, .int 1), (11, .int r5), (0, .ref 51), (1, .int a1), (3, .int x3), (4, .int x4)]) 11 dX8_groupOf_214 rfl (v := v19) (by rw [e_v19]; first | done | rfl) (by decide) rfl ?_
                        refine V_goto 48 dX8_groupOf_217 rfl ?_
                        refine V_sub (lo2 := [(0, .ref 51), (1, .int a1), (3, .int x3), (4, .int x4), (5, .int v10), (6, .int v11), (7, .int v12), (8, .int r5), (9, .int r5), (10, .int v19)]) [8, 9, 10, 11, 5, 4, 3, 2, 1, 0] rfl ?_
                        exact ih _ _ _ _ _ _ _ _ h
                      · replace h := h.2 hc
                        refine V_iload dX8_groupOf_198 rfl ?_
                        refine V_iload dX8_groupOf_200 rfl ?_
                        refine V_icmp_le 210 dX8_groupOf_202 rfl (fun hc => ?_) (fun hc => ?_)
                        · replace h := h.1 hc
                          refine V_iload dX8_groupOf_210 rfl ?_
                          refine V_istore (lo2 := [(9, .int x9), (8, .int r5), (7, .int v12), (6, .int v11), (5, .int v10), (12, .int 1), (11, .int r5), (0, .ref 51), (1, .int a1), (3, .int x3), (4, .int x4), (10, .int x10)]) dX8_groupOf_212 (by decide) rfl ?_
                          obtain ⟨v20, e_v20⟩ : ∃ z : Int32, z = (x10 + 1) := ⟨_, rfl⟩
                          replace h := h v20 e_v20
                          refine V_iinc (lo2 := [(10, .int v20), (9, .int x9), (8, .int r5), (7, .int v12), (6, .int v11), (5, .int v10), (12, .int 1), (11, .int r5), (0, .ref 51), (1, .int a1), (3, .int x3), (4, .int x4)]) 11 dX8_groupOf_214 rfl (v := v20) (by rw [e_v20]; first | done | rfl) (by decide) rfl ?_
                          refine V_goto 48 dX8_groupOf_217 rfl ?_
                          refine V_sub (lo2 := [(0, .ref 51), (1, .int a1), (3, .int x3), (4, .int x4), (5, .int v10), (6, .int v11), (7, .int v12), (8, .int r5), (9, .int x9), (10, .int v20)]) [8, 9, 10, 11, 5, 4, 3, 2, 1, 0] rfl ?_
                          exact ih _ _ _ _ _ _ _ _ h
                        · replace h := h.2 hc
                          refine V_iload dX8_groupOf_205 rfl ?_
                          refine V_goto 212 dX8_groupOf_207 rfl ?_
                          refine V_istore (lo2 := [(9, .int r5), (8, .int r5), (7, .int v12), (6, .int v11), (5, .int v10), (12, .int 1), (11, .int r5), (0, .ref 51), (1, .int a1), (3, .int x3), (4, .int x4), (10, .int x10)]) dX8_groupOf_212 (by decide) rfl ?_
                          obtain ⟨v21, e_v21⟩ : ∃ z : Int32, z = (x10 + 1) := ⟨_, rfl⟩
                          replace h := h v21 e_v21
                          refine V_iinc (lo2 := [(10, .int v21), (9, .int r5), (8, .int r5), (7, .int v12), (6, .int v11), (5, .int v10), (12, .int 1), (11, .int r5), (0, .ref 51), (1, .int a1), (3, .int x3), (4, .int x4)]) 11 dX8_groupOf_214 rfl (v := v21) (by rw [e_v21]; first | done | rfl) (by decide) rfl ?_
                          refine V_goto 48 dX8_groupOf_217 rfl ?_
                          refine V_sub (lo2 := [(0, .ref 51), (1, .int a1), (3, .int x3), (4, .int x4), (5, .int v10), (6, .int v11), (7, .int v12), (8, .int r5), (9, .int r5), (10, .int v21)]) [8, 9, 10, 11, 5, 4, 3, 2, 1, 0] rfl ?_
                          exact ih _ _ _ _ _ _ _ _ h
def wX8_groupOf (a1 : Int32) (a2 : Int32) (I : QI) (post : Int32 → Prop) : Prop := (vp_in a1 24 ∧ (∀ v1 : Int32, v1 = (I 59 (a1).toNatClampNeg) → (vp_in a1 24 ∧ (vp_in a1 24 ∧ (wX8_cellOf (I 56 (a1).toNatClampNeg) a2 (I 58 (a1).toNatClampNeg) I (fun r2 => (∃ f : Nat, wX8_groupOf_48 a1 a2 I (fun u22 u23 u24 u25 u26 u27 => (((-99) ≤ u25 → ((u25 ≤ 99 → ((¬ u22 = 0 → ((¬ u22 = 1 → ((¬ u24 = 0 → ((¬ u22 = 2 → ((¬ u22 = 3 → post u27) ∧ (u22 = 3 → post u26))) ∧ (u22 = 2 → post u25))) ∧ (u24 = 0 → post (-1000)))) ∧ (u22 = 1 → post u24))) ∧ (u22 = 0 → post u23))) ∧ (¬ u25 ≤ 99 → ((¬ u22 = 0 → ((¬ u22 = 1 → ((¬ u24 = 0 → ((¬ u22 = 2 → ((¬ u22 = 3 → post u27) ∧ (u22 = 3 → post u26))) ∧ (u22 = 2 → post 99))) ∧ (u24 = 0 → post (-1000)))) ∧ (u22 = 1 → post u24))) ∧ (u22 = 0 → post u23))))) ∧ (¬ (-99) ≤ u25 → ((¬ u22 = 0 → ((¬ u22 = 1 → ((¬ u24 = 0 → ((¬ u22 = 2 → ((¬ u22 = 3 → post u27) ∧ (u22 = 3 → post u26))) ∧ (u22 = 2 → post (-99)))) ∧ (u24 = 0 → post (-1000)))) ∧ (u22 = 1 → post u24))) ∧ (u22 = 0 → post u23))))) post f v1 r2 0 0 0 (-1000) (-1000) a2)))))))
set_option maxRecDepth 100000 in
set_option maxHeartbeats 4000000 in
theorem s_mX8_groupOf {X : QX} {S : QS} {a1 : Int32} {a2 : Int32} {I : QI} {J : QJ} {post : Int32 → Prop} (hS : Sh S) (h : wX8_groupOf a1 a2 I post) : CX X mX8_groupOf 1 0 0 [.ref 51, .int a1, .int a2] S I J (q_Pi S (fun r I2 J2 => I = I2 ∧ J = J2 ∧ post r)) := by
  refine CX.of (lo := [(0, .ref 51), (1, .int a1), (2, .int a2)]) ok_mX8_groupOf rfl (Nat.le_of_ble_eq_true rfl) rfl ?_
  replace h : (vp_in a1 24 ∧ (∀ v1 : Int32, v1 = (I 59 (a1).toNatClampNeg) → (vp_in a1 24 ∧ (vp_in a1 24 ∧ (wX8_cellOf (I 56 (a1).toNatClampNeg) a2 (I 58 (a1).toNatClampNeg) I (fun r2 => (∃ f : Nat, wX8_groupOf_48 a1 a2 I (fun u22 u23 u24 u25 u26 u27 => (((-99) ≤ u25 → ((u25 ≤ 99 → ((¬ u22 = 0 → ((¬ u22 = 1 → ((¬ u24 = 0 → ((¬ u22 = 2 → ((¬ u22 = 3 → post u27) ∧ (u22 = 3 → post u26))) ∧ (u22 = 2 → post u25))) ∧ (u24 = 0 → post (-1000)))) ∧ (u22 = 1 → post u24))) ∧ (u22 = 0 → post u23))) ∧ (¬ u25 ≤ 99 → ((¬ u22 = 0 → ((¬ u22 = 1 → ((¬ u24 = 0 → ((¬ u22 = 2 → ((¬ u22 = 3 → post u27) ∧ (u22 = 3 → post u26))) ∧ (u22 = 2 → post 99))) ∧ (u24 = 0 → post (-1000)))) ∧ (u22 = 1 → post u24))) ∧ (u22 = 0 → post u23))))) ∧ (¬ (-99) ≤ u25 → ((¬ u22 = 0 → ((¬ u22 = 1 → ((¬ u24 = 0 → ((¬ u22 = 2 → ((¬ u22 = 3 → post u27) ∧ (u22 = 3 → post u26))) ∧ (u22 = 2 → post (-99)))) ∧ (u24 = 0 → post (-1000)))) ∧ (u22 = 1 → post u24))) ∧ (u22 = 0 → post u23))))) post f v1 r2 0 0 0 (-1000) (-1000) a2))))))) := h
  refine V_aload_n dX8_groupOf_0 rfl rfl ?_
  refine V_getr dX8_groupOf_1 fl_RX8_31 (hS.n 51 rfl) (hS.k 51 8 rfl) rfl (hS.r 51 10 59 rfl) ?_
  refine V_iload_n dX8_groupOf_4 rfl rfl ?_
  obtain ⟨hb, h⟩ := h
  refine V_iald dX8_groupOf_5 (hS.n 59 rfl) (hS.k 59 9 rfl) (by rw [(hS.z 59 24 rfl)]; exact hb) ?_
  refine V_topi (fun v1 e_v1 => ?_)
  replace h := h v1 e_v1
  refine V_istore_n (lo2 := [(3, .int v1), (0, .ref 51), (1, .int a1), (2, .int a2)]) dX8_groupOf_6 rfl (by decide) rfl ?_
  refine V_aload_n dX8_groupOf_7 rfl rfl ?_
  refine V_aload_n dX8_groupOf_8 rfl rfl ?_
  refine V_getr dX8_groupOf_9 fl_RX8_22 (hS.n 51 rfl) (hS.k 51 8 rfl) rfl (hS.r 51 7 56 rfl) ?_
  refine V_iload_n dX8_groupOf_12 rfl rfl ?_
  obtain ⟨hb, h⟩ := h
  refine V_iald dX8_groupOf_13 (hS.n 56 rfl) (hS.k 56 9 rfl) (by rw [(hS.z 56 24 rfl)]; exact hb) ?_
  refine V_iload_n dX8_groupOf_14 rfl rfl ?_
  refine V_aload_n dX8_groupOf_15 rfl rfl ?_
  refine V_getr dX8_groupOf_16 fl_RX8_28 (hS.n 51 rfl) (hS.k 51 8 rfl) rfl (hS.r 51 9 58 rfl) ?_
  refine V_iload_n dX8_groupOf_19 rfl rfl ?_
  obtain ⟨hb, h⟩ := h
  refine V_iald dX8_groupOf_20 (hS.n 58 rfl) (hS.k 58 9 rfl) (by rw [(hS.z 58 24 rfl)]; exact hb) ?_
  refine V_callVi (st := []) [.int (I 56 (a1).toNatClampNeg), .int a2, .int (I 58 (a1).toNatClampNeg)] dX8_groupOf_21 ok_mX8_cellOf rfl ml_RX8_144 in_mX8_cellOf se_mX8_cellOf (hS.n 51 rfl) (hS.k 51 8 rfl) (by decide) rfl (Nat.le_of_ble_eq_true rfl) (by decide) (by decide) (by decide) (s_mX8_cellOf hS h) (fun r2 I9 J9 h => ?_)
  obtain ⟨rfl, rfl, h⟩ := h
  refine V_istore (lo2 := [(4, .int r2), (3, .int v1), (0, .ref 51), (1, .int a1), (2, .int a2)]) dX8_groupOf_24 (by decide) rfl ?_
  refine V_iconst (v := 0) dX8_groupOf_26 (by decide) ?_
  refine V_istore (lo2 := [(5, .int 0), (4, .int r2), (3, .int v1), (0, .ref 51), (1, .int a1), (2, .int a2)]) dX8_groupOf_27 (by decide) rfl ?_
  refine V_iconst (v := 0) dX8_groupOf_29 (by decide) ?_
  refine V_istore (lo2 := [(6, .int 0), (5, .int 0), (4, .int r2), (3, .int v1), (0, .ref 51), (1, .int a1), (2, .int a2)]) dX8_groupOf_30 (by decide) rfl ?_
  refine V_iconst (v := 0) dX8_groupOf_32 (by decide) ?_
  refine V_istore (lo2 := [(7, .int 0), (6, .int 0), (5, .int 0), (4, .int r2), (3, .int v1), (0, .ref 51), (1, .int a1), (2, .int a2)]) dX8_groupOf_33 (by decide) rfl ?_
  refine V_sipush (v := (-1000)) dX8_groupOf_35 (by decide) ?_
  refine V_istore (lo2 := [(8, .int (-1000)), (7, .int 0), (6, .int 0), (5, .int 0), (4, .int r2), (3, .int v1), (0, .ref 51), (1, .int a1), (2, .int a2)]) dX8_groupOf_38 (by decide) rfl ?_
  refine V_sipush (v := (-1000)) dX8_groupOf_40 (by decide) ?_
  refine V_istore (lo2 := [(9, .int (-1000)), (8, .int (-1000)), (7, .int 0), (6, .int 0), (5, .int 0), (4, .int r2), (3, .int v1), (0, .ref 51), (1, .int a1), (2, .int a2)]) dX8_groupOf_43 (by decide) rfl ?_
  refine V_iload_n dX8_groupOf_45 rfl rfl ?_
  refine V_istore (lo2 := [(10, .int a2), (9, .int (-1000)), (8, .int (-1000)), (7, .int 0), (6, .int 0), (5, .int 0), (4, .int r2), (3, .int v1), (0, .ref 51), (1, .int a1), (2, .int a2)]) dX8_groupOf_46 (by decide) rfl ?_
  refine V_sub (lo2 := [(0, .ref 51), (1, .int a1), (3, .int v1), (4, .int r2), (5, .int 0), (6, .int 0), (7, .int 0), (8, .int (-1000)), (9, .int (-1000)), (10, .int a2)]) [8, 9, 7, 6, 5, 4, 3, 2, 1, 0] rfl ?_
  obtain ⟨f9, h⟩ := h
  refine swX8_groupOf_48 hS ?_ f9 _ _ _ _ _ _ _ _ h
  · intro u22 u23 u24 u25 u26 u27 h
    refine V_iload dX8_groupOf_220 rfl ?_
    refine V_bipush (v := (-99)) dX8_groupOf_222 (by decide) ?_
    refine V_icmp_ge 232 dX8_groupOf_224 rfl (fun hc => ?_) (fun hc => ?_)
    · replace h := h.1 hc
      refine V_iload dX8_groupOf_232 rfl ?_
      refine V_bipush (v := 99) dX8_groupOf_234 (by decide) ?_
      refine V_icmp_le 244 dX8_groupOf_236 rfl (fun hc => ?_) (fun hc => ?_)
      · replace h := h.1 hc
        refine V_iload dX8_groupOf_244 rfl ?_
        refine V_istore (lo2 := [(10, .int u25), (3, .int u22), (5, .int u23), (6, .int u24), (7, .int u25), (8, .int u26), (9, .int u27)]) dX8_groupOf_246 (by decide) rfl ?_
        refine V_iload_n dX8_groupOf_248 rfl rfl ?_
        refine V_if_ne 257 dX8_groupOf_249 rfl (fun hc => ?_) (fun hc => ?_)
        · replace h := h.1 hc
          refine V_iload_n dX8_groupOf_257 rfl rfl ?_
          refine V_iconst (v := 1) dX8_groupOf_258 (by decide) ?_
          refine V_icmp_ne 267 dX8_groupOf_259 rfl (fun hc => ?_) (fun hc => ?_)
          · replace h := h.1 hc
            refine V_iload dX8_groupOf_267 rfl ?_
            refine V_if_ne 278 dX8_groupOf_269 rfl (fun hc => ?_) (fun hc => ?_)
            · replace h := h.1 hc
              refine V_iload_n dX8_groupOf_278 rfl rfl ?_
              refine V_iconst (v := 2) dX8_groupOf_279 (by decide) ?_
              refine V_icmp_ne 288 dX8_groupOf_280 rfl (fun hc => ?_) (fun hc => ?_)
              · replace h := h.1 hc
                refine V_iload_n dX8_groupOf_288 rfl rfl ?_
                refine V_iconst (v := 3) dX8_groupOf_289 (by decide) ?_
                refine V_icmp_ne 298 dX8_groupOf_290 rfl (fun hc => ?_) (fun hc => ?_)
                · replace h := h.1 hc
                  refine V_iload dX8_groupOf_298 rfl ?_
                  exact V_iret dX8_groupOf_300 rfl (by decide) (by decide) ⟨_, rfl, rfl, rfl, rfl, h⟩
                · replace h := h.2 hc
                  refine V_iload dX8_groupOf_293 rfl ?_
                  refine V_goto 300 dX8_groupOf_295 rfl ?_
                  exact V_iret dX8_groupOf_300 rfl (by decide) (by decide) ⟨_, rfl, rfl, rfl, rfl, h⟩
              · replace h := h.2 hc
                refine V_iload dX8_groupOf_283 rfl ?_
                refine V_goto 300 dX8_groupOf_285 rfl ?_
                exact V_iret dX8_groupOf_300 rfl (by decide) (by decide) ⟨_, rfl, rfl, rfl, rfl, h⟩
            · replace h := h.2 hc
              refine V_sipush (v := (-1000)) dX8_groupOf_272 (by decide) ?_
              refine V_goto 300 dX8_groupOf_275 rfl ?_
              exact V_iret dX8_groupOf_300 rfl (by decide) (by decide) ⟨_, rfl, rfl, rfl, rfl, h⟩
          · replace h := h.2 hc
            refine V_iload dX8_groupOf_262 rfl ?_
            refine V_goto 300 dX8_groupOf_264 rfl ?_
            exact V_iret dX8_groupOf_300 rfl (by decide) (by decide) ⟨_, rfl, rfl, rfl, rfl, h⟩
        · replace h := h.2 hc
          refine V_iload dX8_groupOf_252 rfl ?_
          refine V_goto 300 dX8_groupOf_254 rfl ?_
          exact V_iret dX8_groupOf_300 rfl (by decide) (by decide) ⟨_, rfl, rfl, rfl, rfl, h⟩
      · replace h := h.2 hc
        refine V_bipush (v := 99) dX8_groupOf_239 (by decide) ?_
        refine V_goto 246 dX8_groupOf_241 rfl ?_
        refine V_istore (lo2 := [(10, .int 99), (3, .int u22), (5, .int u23), (6, .int u24), (7, .int u25), (8, .int u26), (9, .int u27)]) dX8_groupOf_246 (by decide) rfl ?_
        refine V_iload_n dX8_groupOf_248 rfl rfl ?_
        refine V_if_ne 257 dX8_groupOf_249 rfl (fun hc => ?_) (fun hc => ?_)
        · replace h := h.1 hc
          refine V_iload_n dX8_groupOf_257 rfl rfl ?_
          refine V_iconst (v := 1) dX8_groupOf_258 (by decide) ?_
          refine V_icmp_ne 267 dX8_groupOf_259 rfl (fun hc => ?_) (fun hc => ?_)
          · replace h := h.1 hc
            refine V_iload dX8_groupOf_267 rfl ?_
            refine V_if_ne 278 dX8_groupOf_269 rfl (fun hc => ?_) (fun hc => ?_)
            · replace h := h.1 hc
              refine V_iload_n dX8_groupOf_278 rfl rfl ?_
              refine V_iconst (v := 2) dX8_groupOf_279 (by decide) ?_
              refine V_icmp_ne 288 dX8_groupOf_280 rfl (fun hc => ?_) (fun hc => ?_)
              · replace h := h.1 hc
                refine V_iload_n dX8_groupOf_288 rfl rfl ?_
                refine V_iconst (v := 3) dX8_groupOf_289 (by decide) ?_
                refine V_icmp_ne 298 dX8_groupOf_290 rfl (fun hc => ?_) (fun hc => ?_)
                · replace h := h.1 hc
                  refine V_iload dX8_groupOf_298 rfl ?_
                  exact V_iret dX8_groupOf_300 rfl (by decide) (by decide) ⟨_, rfl, rfl, rfl, rfl, h⟩
                · replace h := h.2 hc
                  refine V_iload dX8_groupOf_293 rfl ?_
                  refine V_goto 300 dX8_groupOf_295 rfl ?_
                  exact V_iret dX8_groupOf_300 rfl (by decide) (by decide) ⟨_, rfl, rfl, rfl, rfl, h⟩
              · replace h := h.2 hc
                refine V_iload dX8_groupOf_283 rfl ?_
                refine V_goto 300 dX8_groupOf_285 rfl ?_
                exact V_iret dX8_groupOf_300 rfl (by decide) (by decide) ⟨_, rfl, rfl, rfl, rfl, h⟩
            · replace h := h.2 hc
              refine V_sipush (v := (-1000)) dX8_groupOf_272 (by decide) ?_
              refine V_goto 300 dX8_groupOf_275 rfl ?_
              exact V_iret dX8_groupOf_300 rfl (by decide) (by decide) ⟨_, rfl, rfl, rfl, rfl, h⟩
          · replace h := h.2 hc
            refine V_iload dX8_groupOf_262 rfl ?_
            refine V_goto 300 dX8_groupOf_264 rfl ?_
            exact V_iret dX8_groupOf_300 rfl (by decide) (by decide) ⟨_, rfl, rfl, rfl, rfl, h⟩
        · replace h := h.2 hc
          refine V_iload dX8_groupOf_252 rfl ?_
          refine V_goto 300 dX8_groupOf_254 rfl ?_
          exact V_iret dX8_groupOf_300 rfl (by decide) (by decide) ⟨_, rfl, rfl, rfl, rfl, h⟩
    · replace h := h.2 hc
      refine V_bipush (v := (-99)) dX8_groupOf_227 (by decide) ?_
      refine V_goto 246 dX8_groupOf_229 rfl ?_
      refine V_istore (lo2 := [(10, .int (-99)), (3, .int u22), (5, .int u23), (6, .int u24), (7, .int u25), (8, .int u26), (9, .int u27)]) dX8_groupOf_246 (by decide) rfl ?_
      refine V_iload_n dX8_groupOf_248 rfl rfl ?_
      refine V_if_ne 257 dX8_groupOf_249 rfl (fun hc => ?_) (fun hc => ?_)
      · replace h := h.1 hc
        refine V_iload_n dX8_groupOf_257 rfl rfl ?_
        refine V_iconst (v := 1) dX8_groupOf_258 (by decide) ?_
        refine V_icmp_ne 267 dX8_groupOf_259 rfl (fun hc => ?_) (fun hc => ?_)
        · replace h := h.1 hc
          refine V_iload dX8_groupOf_267 rfl ?_
          refine V_if_ne 278 dX8_groupOf_269 rfl (fun hc => ?_) (fun hc => ?_)
          · replace h := h.1 hc
            refine V_iload_n dX8_groupOf_278 rfl rfl ?_
            refine V_iconst (v := 2) dX8_groupOf_279 (by decide) ?_
            refine V_icmp_ne 288 dX8_groupOf_280 rfl (fun hc => ?_) (fun hc => ?_)
            · replace h := h.1 hc
              refine V_iload_n dX8_groupOf_288 rfl rfl ?_
              refine V_iconst (v := 3) dX8_groupOf_289 (by decide) ?_
              refine V_icmp_ne 298 dX8_groupOf_290 rfl (fun hc => ?_) (fun hc => ?_)
              · replace h := h.1 hc
                refine V_iload dX8_groupOf_298 rfl ?_
                exact V_iret dX8_groupOf_300 rfl (by decide) (by decide) ⟨_, rfl, rfl, rfl, rfl, h⟩
              · replace h := h.2 hc
                refine V_iload dX8_groupOf_293 rfl ?_
                refine V_goto 300 dX8_groupOf_295 rfl ?_
                exact V_iret dX8_groupOf_300 rfl (by decide) (by decide) ⟨_, rfl, rfl, rfl, rfl, h⟩
            · replace h := h.2 hc
              refine V_iload dX8_groupOf_283 rfl ?_
              refine V_goto 300 dX8_groupOf_285 rfl ?_
              exact V_iret dX8_groupOf_300 rfl (by decide) (by decide) ⟨_, rfl, rfl, rfl, rfl, h⟩
          · replace h := h.2 hc
            refine V_sipush (v := (-1000)) dX8_groupOf_272 (by decide) ?_
            refine V_goto 300 dX8_groupOf_275 rfl ?_
            exact V_iret dX8_groupOf_300 rfl (by decide) (by decide) ⟨_, rfl, rfl, rfl, rfl, h⟩
        · replace h := h.2 hc
          refine V_iload dX8_groupOf_262 rfl ?_
          refine V_goto 300 dX8_groupOf_264 rfl ?_
          exact V_iret dX8_groupOf_300 rfl (by decide) (by decide) ⟨_, rfl, rfl, rfl, rfl, h⟩
      · replace h := h.2 hc
        refine V_iload dX8_groupOf_252 rfl ?_
        refine V_goto 300 dX8_groupOf_254 rfl ?_
        exact V_iret dX8_groupOf_300 rfl (by decide) (by decide) ⟨_, rfl, rfl, rfl, rfl, h⟩
def wX8_giveGroup_22 (a1 : Int32) (K77 : Int32 → Int32 → QI → Prop) (post : QI → Prop) : Nat → Int32 → Int32 → Int32 → QI → Prop
  | 0, _, _, _, _ => False
  | n + 1, x2, x3, x4, I => (vp_in a1 24 ∧ (((I 64 (a1).toNatClampNeg) ≤ x4 → (K77 x2 x3 I)) ∧ (¬ (I 64 (a1).toNatClampNeg) ≤ x4 → ((x3 = 0 → (∀ v1 : Int32, v1 = (x4 + 1) → (wX8_giveGroup_22 a1 K77 post n x2 0 v1 I))) ∧ (¬ x3 = 0 → (wX8_cellOf a1 x4 0 I (fun r2 => (vp_in a1 24 ∧ (vp_in a1 24 ∧ (wX8_cellOf (I 56 (a1).toNatClampNeg) x2 (I 58 (a1).toNatClampNeg) I (fun r3 => ((r2 = r3 → (∀ v4 : Int32, v4 = (x4 + 1) → (wX8_giveGroup_22 a1 K77 post n x2 0 v4 I))) ∧ (¬ r2 = r3 → (∀ v5 : Int32, v5 = (x4 + 1) → (wX8_giveGroup_22 a1 K77 post n x2 1 v5 I)))))))))))))))
set_option maxRecDepth 100000 in
set_option maxHeartbeats 4000000 in
theorem swX8_giveGroup_22 {X : QX} {S : QS} {a1 : Int32} {J : QJ} {K77 : Int32 → Int32 → QI → Prop} {post : QI → Prop} (hS : Sh S) (hK77 : ∀ (z2 : Int32) (z3 : Int32) (I : QI), K77 z2 z3 I → V X mX8_giveGroup 2 0 0 (q_Pv S (fun I2 J2 => J = J2 ∧ post I2)) 77 [(0, .ref 51), (1, .int a1), (2, .int z2), (3, .int z3)] [] S I J 0 0) : ∀ (f : Nat) (x2 : Int32) (x3 : Int32) (x4 : Int32) (I : QI), wX8_giveGroup_22 a1 K77 post f x2 x3 x4 I → V X mX8_giveGroup 2 0 0 (q_Pv S (fun I2 J2 => J = J2 ∧ post I2)) 22 [(0, .ref 51), (1, .int a1), (2, .int x2), (3, .int x3), (4, .int x4)] [] S I J 0 0 := by
  intro f
  induction f with
  | zero => intro x2 x3 x4 I h; exact h.elim
  | succ n ih =>
    intro x2 x3 x4 I h
    replace h : (vp_in a1 24 ∧ (((I 64 (a1).toNatClampNeg) ≤ x4 → (K77 x2 x3 I)) ∧ (¬ (I 64 (a1).toNatClampNeg) ≤ x4 → ((x3 = 0 → (∀ v1 : Int32, v1 = (x4 + 1) → (wX8_giveGroup_22 a1 K77 post n x2 0 v1 I))) ∧ (¬ x3 = 0 → (wX8_cellOf a1 x4 0 I (fun r2 => (vp_in a1 24 ∧ (vp_in a1 24 ∧ (wX8_cellOf (I 56 (a1).toNatClampNeg) x2 (I 58 (a1).toNatClampNeg) I (fun r3 => ((r2 = r3 → (∀ v4 : Int32, v4 = (x4 + 1) → (wX8_giveGroup_22 a1 K77 post n x2 0 v4 I))) ∧ (¬ r2 = r3 → (∀ v5 : Int32, v5 = (x4 + 1) → (wX8_giveGroup_22 a1 K77 post n x2 1 v5 I))))))))))))))) := h
    refine V_iload dX8_giveGroup_22 rfl ?_
    refine V_aload_n dX8_giveGroup_24 rfl rfl ?_
    refine V_getr dX8_giveGroup_25 fl_RX8_51 (hS.n 51 rfl) (hS.k 51 8 rfl) rfl (hS.r 51 18 64 rfl) ?_
    refine V_iload_n dX8_giveGroup_28 rfl rfl ?_
    obtain ⟨hb, h⟩ := h
    refine V_iald dX8_giveGroup_29 (hS.n 64 rfl) (hS.k 64 9 rfl) (by rw [(hS.z 64 24 rfl)]; exact hb) ?_
    refine V_icmp_ge 77 dX8_giveGroup_30 rfl (fun hc => ?_) (fun hc => ?_)
    · replace h := h.1 hc
      refine V_sub (lo2 := [(0, .ref 51), (1, .int a1), (2, .int x2), (3, .int x3)]) [0, 1, 2, 3] rfl ?_
      exact hK77 _ _ _ h
    · replace h := h.2 hc
      refine V_iload_n dX8_giveGroup_33 rfl rfl ?_
      refine V_if_eq 69 dX8_giveGroup_34 rfl (fun hc => ?_) (fun hc => ?_)
      · replace h := h.1 hc
        refine V_iconst (v := 0) dX8_giveGroup_69 (by decide) ?_
        refine V_istore_n (lo2 := [(3, .int 0), (0, .ref 51), (1, .int a1), (2, .int x2), (4, .int x4)]) dX8_giveGroup_70 rfl (by decide) rfl ?_
        obtain ⟨v1, e_v1⟩ : ∃ z : Int32, z = (x4 + 1) := ⟨_, rfl⟩
        replace h := h v1 e_v1
        refine V_iinc (lo2 := [(4, .int v1), (3, .int 0), (0, .ref 51), (1, .int a1), (2, .int x2)]) 4 dX8_giveGroup_71 rfl (v := v1) (by rw [e_v1]; first | done | rfl) (by decide) rfl ?_
        refine V_goto 22 dX8_giveGroup_74 rfl ?_
        refine V_sub (lo2 := [(0, .ref 51), (1, .int a1), (2, .int x2), (3, .int 0), (4, .int v1)]) [2, 3, 4, 1, 0] rfl ?_
        exact ih _ _ _ _ h
      · replace h := h.2 hc
        refine V_aload_n dX8_giveGroup_37 rfl rfl ?_
        refine V_iload_n dX8_giveGroup_38 rfl rfl ?_
        refine V_iload dX8_giveGroup_39 rfl ?_
        refine V_iconst (v := 0) dX8_giveGroup_41 (by decide) ?_
        refine V_callVi (st := []) [.int a1, .int x4, .int 0] dX8_giveGroup_42 ok_mX8_cellOf rfl ml_RX8_144 in_mX8_cellOf se_mX8_cellOf (hS.n 51 rfl) (hS.k 51 8 rfl) (by decide) rfl (Nat.le_of_ble_eq_true rfl) (by decide) (by decide) (by decide) (s_mX8_cellOf hS h) (fun r2 I9 J9 h => ?_)
        obtain ⟨rfl, rfl, h⟩ := h
        refine V_aload_n dX8_giveGroup_45 rfl rfl ?_
        refine V_aload_n dX8_giveGroup_46 rfl rfl ?_
        refine V_getr dX8_giveGroup_47 fl_RX8_22 (hS.n 51 rfl) (hS.k 51 8 rfl) rfl (hS.r 51 7 56 rfl) ?_
        refine V_iload_n dX8_giveGroup_50 rfl rfl ?_
        obtain ⟨hb, h⟩ := h
        refine V_iald dX8_giveGroup_51 (hS.n 56 rfl) (hS.k 56 9 rfl) (by rw [(hS.z 56 24 rfl)]; exact hb) ?_
        refine V_iload_n dX8_giveGroup_52 rfl rfl ?_
        refine V_aload_n dX8_giveGroup_53 rfl rfl ?_
        refine V_getr dX8_giveGroup_54 fl_RX8_28 (hS.n 51 rfl) (hS.k 51 8 rfl) rfl (hS.r 51 9 58 rfl) ?_
        refine V_iload_n dX8_giveGroup_57 rfl rfl ?_
        obtain ⟨hb, h⟩ := h
        refine V_iald dX8_giveGroup_58 (hS.n 58 rfl) (hS.k 58 9 rfl) (by rw [(hS.z 58 24 rfl)]; exact hb) ?_
        refine V_callVi (st := [.int r2]) [.int (I 56 (a1).toNatClampNeg), .int x2, .int (I 58 (a1).toNatClampNeg)] dX8_giveGroup_59 ok_mX8_cellOf rfl ml_RX8_144 in_mX8_cellOf se_mX8_cellOf (hS.n 51 rfl) (hS.k 51 8 rfl) (by decide) rfl (Nat.le_of_ble_eq_true rfl) (by decide) (by decide) (by decide) (s_mX8_cellOf hS h) (fun r3 I9 J9 h => ?_)
        obtain ⟨rfl, rfl, h⟩ := h
        refine V_icmp_eq 69 dX8_giveGroup_62 rfl (fun hc => ?_) (fun hc => ?_)
        · replace h := h.1 hc
          refine V_iconst (v := 0) dX8_giveGroup_69 (by decide) ?_
          refine V_istore_n (lo2 := [(3, .int 0), (0, .ref 51), (1, .int a1), (2, .int x2), (4, .int x4)]) dX8_giveGroup_70 rfl (by decide) rfl ?_
          obtain ⟨v4, e_v4⟩ : ∃ z : Int32, z = (x4 + 1) := ⟨_, rfl⟩
          replace h := h v4 e_v4
          refine V_iinc (lo2 := [(4, .int v4), (3, .int 0), (0, .ref 51), (1, .int a1), (2, .int x2)]) 4 dX8_giveGroup_71 rfl (v := v4) (by rw [e_v4]; first | done | rfl) (by decide) rfl ?_
          refine V_goto 22 dX8_giveGroup_74 rfl ?_
          refine V_sub (lo2 := [(0, .ref 51), (1, .int a1), (2, .int x2), (3, .int 0), (4, .int v4)]) [2, 3, 4, 1, 0] rfl ?_
          exact ih _ _ _ _ h
        · replace h := h.2 hc
          refine V_iconst (v := 1) dX8_giveGroup_65 (by decide) ?_
          refine V_goto 70 dX8_giveGroup_66 rfl ?_
          refine V_istore_n (lo2 := [(3, .int 1), (0, .ref 51), (1, .int a1), (2, .int x2), (4, .int x4)]) dX8_giveGroup_70 rfl (by decide) rfl ?_
          obtain ⟨v5, e_v5⟩ : ∃ z : Int32, z = (x4 + 1) := ⟨_, rfl⟩
          replace h := h v5 e_v5
          refine V_iinc (lo2 := [(4, .int v5), (3, .int 1), (0, .ref 51), (1, .int a1), (2, .int x2)]) 4 dX8_giveGroup_71 rfl (v := v5) (by rw [e_v5]; first | done | rfl) (by decide) rfl ?_
          refine V_goto 22 dX8_giveGroup_74 rfl ?_
          refine V_sub (lo2 := [(0, .ref 51), (1, .int a1), (2, .int x2), (3, .int 1), (4, .int v5)]) [2, 3, 4, 1, 0] rfl ?_
          exact ih _ _ _ _ h
def wX8_giveGroup_2 (a1 : Int32) (post : QI → Prop) : Nat → Int32 → QI → Prop
  | 0, _, _ => False
  | n + 1, x2, I => (vp_in a1 24 ∧ (vp_in (I 56 (a1).toNatClampNeg) 24 ∧ (((I 64 ((I 56 (a1).toNatClampNeg)).toNatClampNeg) ≤ x2 → post I) ∧ (¬ (I 64 ((I 56 (a1).toNatClampNeg)).toNatClampNeg) ≤ x2 → (∃ f : Nat, wX8_giveGroup_22 a1 (fun u6 u7 I8 => ((u7 = 0 → (∀ v9 : Int32, v9 = (u6 + 1) → (wX8_giveGroup_2 a1 post n v9 I8))) ∧ (¬ u7 = 0 → (vp_in a1 24 ∧ (vp_in a1 24 ∧ (wX8_cellOf (I8 56 (a1).toNatClampNeg) u6 (I8 58 (a1).toNatClampNeg) I8 (fun r10 => (wX8_put a1 0 r10 I8 (fun I11 => (wX8_groupOf a1 u6 I11 (fun r12 => (wX8_put a1 1 r12 I11 (fun I13 => (vp_in a1 24 ∧ (vp_in a1 24 ∧ (∀ I14 : QI, I14 = q_u2 I13 64 (a1).toNatClampNeg ((I13 64 (a1).toNatClampNeg) + 1) → (∀ v15 : Int32, v15 = (u6 + 1) → (wX8_giveGroup_2 a1 post n v15 I14)))))))))))))))))) post f x2 1 0 I)))))
set_option maxRecDepth 100000 in
set_option maxHeartbeats 4000000 in
theorem swX8_giveGroup_2 {X : QX} {S : QS} {a1 : Int32} {J : QJ} {post : QI → Prop} (hS : Sh S) : ∀ (f : Nat) (x2 : Int32) (I : QI), wX8_giveGroup_2 a1 post f x2 I → V X mX8_giveGroup 2 0 0 (q_Pv S (fun I2 J2 => J = J2 ∧ post I2)) 2 [(0, .ref 51), (1, .int a1), (2, .int x2)] [] S I J 0 0 := by
  intro f
  induction f with
  | zero => intro x2 I h; exact h.elim
  | succ n ih =>
    intro x2 I h
    replace h : (vp_in a1 24 ∧ (vp_in (I 56 (a1).toNatClampNeg) 24 ∧ (((I 64 ((I 56 (a1).toNatClampNeg)).toNatClampNeg) ≤ x2 → post I) ∧ (¬ (I 64 ((I 56 (a1).toNatClampNeg)).toNatClampNeg) ≤ x2 → (∃ f : Nat, wX8_giveGroup_22 a1 (fun u6 u7 I8 => ((u7 = 0 → (∀ v9 : Int32, v9 = (u6 + 1) → (wX8_giveGroup_2 a1 post n v9 I8))) ∧ (¬ u7 = 0 → (vp_in a1 24 ∧ (vp_in a1 24 ∧ (wX8_cellOf (I8 56 (a1).toNatClampNeg) u6 (I8 58 (a1).toNatClampNeg) I8 (fun r10 => (wX8_put a1 0 r10 I8 (fun I11 => (wX8_groupOf a1 u6 I11 (fun r12 => (wX8_put a1 1 r12 I11 (fun I13 => (vp_in a1 24 ∧ (vp_in a1 24 ∧ (∀ I14 : QI, I14 = q_u2 I13 64 (a1).toNatClampNeg ((I13 64 (a1).toNatClampNeg) + 1) → (∀ v15 : Int32, v15 = (u6 + 1) → (wX8_giveGroup_2 a1 post n v15 I14)))))))))))))))))) post f x2 1 0 I))))) := h
    refine V_iload_n dX8_giveGroup_2 rfl rfl ?_
    refine V_aload_n dX8_giveGroup_3 rfl rfl ?_
    refine V_getr dX8_giveGroup_4 fl_RX8_51 (hS.n 51 rfl) (hS.k 51 8 rfl) rfl (hS.r 51 18 64 rfl) ?_
    refine V_aload_n dX8_giveGroup_7 rfl rfl ?_
    refine V_getr dX8_giveGroup_8 fl_RX8_22 (hS.n 51 rfl) (hS.k 51 8 rfl) rfl (hS.r 51 7 56 rfl) ?_
    refine V_iload_n dX8_giveGroup_11 rfl rfl ?_
    obtain ⟨hb, h⟩ := h
    refine V_iald dX8_giveGroup_12 (hS.n 56 rfl) (hS.k 56 9 rfl) (by rw [(hS.z 56 24 rfl)]; exact hb) ?_
    obtain ⟨hb, h⟩ := h
    refine V_iald dX8_giveGroup_13 (hS.n 64 rfl) (hS.k 64 9 rfl) (by rw [(hS.z 64 24 rfl)]; exact hb) ?_
    refine V_icmp_ge 132 dX8_giveGroup_14 rfl (fun hc => ?_) (fun hc => ?_)
    · replace h := h.1 hc
      exact V_vret dX8_giveGroup_132 rfl (by decide) (by decide) ⟨rfl, rfl, rfl, h⟩
    · replace h := h.2 hc
      refine V_iconst (v := 1) dX8_giveGroup_17 (by decide) ?_
      refine V_istore_n (lo2 := [(3, .int 1), (0, .ref 51), (1, .int a1), (2, .int x2)]) dX8_giveGroup_18 rfl (by decide) rfl ?_
      refine V_iconst (v := 0) dX8_giveGroup_19 (by decide) ?_
      refine V_istore (lo2 := [(4, .int 0), (3, .int 1), (0, .ref 51), (1, .int a1), (2, .int x2)]) dX8_giveGroup_20 (by decide) rfl ?_
      refine V_sub (lo2 := [(0, .ref 51), (1, .int a1), (2, .int x2), (3, .int 1), (4, .int 0)]) [2, 3, 4, 1, 0] rfl ?_
      obtain ⟨f9, h⟩ := h
      refine swX8_giveGroup_22 hS ?_ f9 _ _ _ _ h
      · intro u6 u7 I8 h
        refine V_iload_n dX8_giveGroup_77 rfl rfl ?_
        refine V_if_eq 126 dX8_giveGroup_78 rfl (fun hc => ?_) (fun hc => ?_)
        · replace h := h.1 hc
          obtain ⟨v9, e_v9⟩ : ∃ z : Int32, z = (u6 + 1) := ⟨_, rfl⟩
          replace h := h v9 e_v9
          refine V_iinc (lo2 := [(2, .int v9), (0, .ref 51), (1, .int a1), (3, .int u7)]) 2 dX8_giveGroup_126 rfl (v := v9) (by rw [e_v9]; first | done | rfl) (by decide) rfl ?_
          refine V_goto 2 dX8_giveGroup_129 rfl ?_
          refine V_sub (lo2 := [(0, .ref 51), (1, .int a1), (2, .int v9)]) [1, 2, 0] rfl ?_
          exact ih _ _ h
        · replace h := h.2 hc
          refine V_aload_n dX8_giveGroup_81 rfl rfl ?_
          refine V_iload_n dX8_giveGroup_82 rfl rfl ?_
          refine V_iconst (v := 0) dX8_giveGroup_83 (by decide) ?_
          refine V_aload_n dX8_giveGroup_84 rfl rfl ?_
          refine V_aload_n dX8_giveGroup_85 rfl rfl ?_
          refine V_getr dX8_giveGroup_86 fl_RX8_22 (hS.n 51 rfl) (hS.k 51 8 rfl) rfl (hS.r 51 7 56 rfl) ?_
          refine V_iload_n dX8_giveGroup_89 rfl rfl ?_
          obtain ⟨hb, h⟩ := h
          refine V_iald dX8_giveGroup_90 (hS.n 56 rfl) (hS.k 56 9 rfl) (by rw [(hS.z 56 24 rfl)]; exact hb) ?_
          refine V_iload_n dX8_giveGroup_91 rfl rfl ?_
          refine V_aload_n dX8_giveGroup_92 rfl rfl ?_
          refine V_getr dX8_giveGroup_93 fl_RX8_28 (hS.n 51 rfl) (hS.k 51 8 rfl) rfl (hS.r 51 9 58 rfl) ?_
          refine V_iload_n dX8_giveGroup_96 rfl rfl ?_
          obtain ⟨hb, h⟩ := h
          refine V_iald dX8_giveGroup_97 (hS.n 58 rfl) (hS.k 58 9 rfl) (by rw [(hS.z 58 24 rfl)]; exact hb) ?_
          refine V_callVi (st := [.int 0, .int a1, .ref 51]) [.int (I8 56 (a1).toNatClampNeg), .int u6, .int (I8 58 (a1).toNatClampNeg)] dX8_giveGroup_98 ok_mX8_cellOf rfl ml_RX8_144 in_mX8_cellOf se_mX8_cellOf (hS.n 51 rfl) (hS.k 51 8 rfl) (by decide) rfl (Nat.le_of_ble_eq_true rfl) (by decide) (by decide) (by decide) (s_mX8_cellOf hS h) (fun r10 I9 J9 h => ?_)
          obtain ⟨rfl, rfl, h⟩ := h
          refine V_callVv (st := []) [.int a1, .int 0, .int r10] dX8_giveGroup_101 ok_mX8_put rfl ml_RX8_148 in_mX8_put se_mX8_put (hS.n 51 rfl) (hS.k 51 8 rfl) (by decide) rfl (Nat.le_of_ble_eq_true rfl) (by decide) (by decide) (by decide) (s_mX8_put hS h) (fun I11 J9 h => ?_)
          obtain ⟨rfl, h⟩ := h
          refine V_aload_n dX8_giveGroup_104 rfl rfl ?_
          refine V_iload_n dX8_giveGroup_105 rfl rfl ?_
          refine V_iconst (v := 1) dX8_giveGroup_106 (by decide) ?_
          refine V_aload_n dX8_giveGroup_107 rfl rfl ?_
          refine V_iload_n dX8_giveGroup_108 rfl rfl ?_
          refine V_iload_n dX8_giveGroup_109 rfl rfl ?_
          refine V_callVi (st := [.int 1, .int a1, .ref 51]) [.int a1, .int u6] dX8_giveGroup_110 ok_mX8_groupOf rfl ml_RX8_162 in_mX8_groupOf se_mX8_groupOf (hS.n 51 rfl) (hS.k 51 8 rfl) (by decide) rfl (Nat.le_of_ble_eq_true rfl) (by decide) (by decide) (by decide) (s_mX8_groupOf hS h) (fun r12 I9 J9 h => ?_)
          obtain ⟨rfl, rfl, h⟩ := h
          refine V_callVv (st := []) [.int a1, .int 1, .int r12] dX8_giveGroup_113 ok_mX8_put rfl ml_RX8_148 in_mX8_put se_mX8_put (hS.n 51 rfl) (hS.k 51 8 rfl) (by decide) rfl (Nat.le_of_ble_eq_true rfl) (by decide) (by decide) (by decide) (s_mX8_put hS h) (fun I13 J9 h => ?_)
          obtain ⟨rfl, h⟩ := h
          refine V_aload_n dX8_giveGroup_116 rfl rfl ?_
          refine V_getr dX8_giveGroup_117 fl_RX8_51 (hS.n 51 rfl) (hS.k 51 8 rfl) rfl (hS.r 51 18 64 rfl) ?_
          refine V_iload_n dX8_giveGroup_120 rfl rfl ?_
          refine V_dup2 dX8_giveGroup_121 rfl rfl ?_
          obtain ⟨hb, h⟩ := h
          refine V_iald dX8_giveGroup_122 (hS.n 64 rfl) (hS.k 64 9 rfl) (by rw [(hS.z 64 24 rfl)]; exact hb) ?_
          refine V_iconst (v := 1) dX8_giveGroup_123 (by decide) ?_
          refine V_iadd dX8_giveGroup_124 ?_
          obtain ⟨hb, h⟩ := h
          refine V_iast dX8_giveGroup_125 (hS.n 64 rfl) (hS.k 64 9 rfl) (by rw [(hS.z 64 24 rfl)]; exact hb) ?_
          refine V_memI (fun I14 e_I14 => ?_)
          replace h := h I14 e_I14
          obtain ⟨v15, e_v15⟩ : ∃ z : Int32, z = (u6 + 1) := ⟨_, rfl⟩
          replace h := h v15 e_v15
          refine V_iinc (lo2 := [(2, .int v15), (0, .ref 51), (1, .int a1), (3, .int u7)]) 2 dX8_giveGroup_126 rfl (v := v15) (by rw [e_v15]; first | done | rfl) (by decide) rfl ?_
          refine V_goto 2 dX8_giveGroup_129 rfl ?_
          refine V_sub (lo2 := [(0, .ref 51), (1, .int a1), (2, .int v15)]) [1, 2, 0] rfl ?_
          exact ih _ _ h
def wX8_giveGroup (a1 : Int32) (I : QI) (post : QI → Prop) : Prop := (∃ f : Nat, wX8_giveGroup_2 a1 post f 0 I)
set_option maxRecDepth 100000 in
set_option maxHeartbeats 4000000 in
theorem s_mX8_giveGroup {X : QX} {S : QS} {a1 : Int32} {I : QI} {J : QJ} {post : QI → Prop} (hS : Sh S) (h : wX8_giveGroup a1 I post) : CX X mX8_giveGroup 2 0 0 [.ref 51, .int a1] S I J (q_Pv S (fun I2 J2 => J = J2 ∧ post I2)) := by
  refine CX.of (lo := [(0, .ref 51), (1, .int a1)]) ok_mX8_giveGroup rfl (Nat.le_of_ble_eq_true rfl) rfl ?_
  replace h : (∃ f : Nat, wX8_giveGroup_2 a1 post f 0 I) := h
  refine V_iconst (v := 0) dX8_giveGroup_0 (by decide) ?_
  refine V_istore_n (lo2 := [(2, .int 0), (0, .ref 51), (1, .int a1)]) dX8_giveGroup_1 rfl (by decide) rfl ?_
  refine V_sub (lo2 := [(0, .ref 51), (1, .int a1), (2, .int 0)]) [1, 2, 0] rfl ?_
  obtain ⟨f9, h⟩ := h
  refine swX8_giveGroup_2 hS f9 _ _ h
