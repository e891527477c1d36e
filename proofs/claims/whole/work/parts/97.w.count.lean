/-! pure: how many places and lists a rewriting may come to: numbers -/
def Xc (α β z : Nat) : Nat → Nat → Nat
  | 0, s => if s = 0 then 0 else z
  | k + 1, s => if s = 0 then 0 else max (α + Xc α β z k (min (s + 1) k)) (β + Xc α β z k (s - 1) + Xc α β z k 1)
theorem Xc_0 (α β z : Nat) : ∀ k, Xc α β z k 0 = 0
  | 0 => rfl
  | _ + 1 => rfl
theorem Xc_s {α β z k s : Nat} (h : 1 ≤ s) : Xc α β z (k + 1) s = max (α + Xc α β z k (min (s + 1) k)) (β + Xc α β z k (s - 1) + Xc α β z k 1) := by
  rw [Xc, if_neg (by omega)]
theorem Xc_m (α β z : Nat) : ∀ (k : Nat) {s t : Nat}, s ≤ t → Xc α β z k s ≤ Xc α β z k t
  | 0, s, t, h => by
    unfold Xc
    by_cases e : s = 0
    · rw [if_pos e]; exact Nat.zero_le _
    · rw [if_neg e, if_neg (by omega)]; exact Nat.le_refl _
  | k + 1, s, t, h => by
    by_cases e : s = 0
    · rw [e, Xc_0]; exact Nat.zero_le _
    · rw [Xc_s (by omega), Xc_s (by omega)]
      have h1 := Xc_m α β z k (s := min (s + 1) k) (t := min (t + 1) k) (by omega)
      have h2 := Xc_m α β z k (s := s - 1) (t := t - 1) (by omega)
      omega
theorem Xc_a {α β z k s t : Nat} (h : 1 ≤ s) (ht : t ≤ s + 1) (hk : t ≤ k) : α + Xc α β z k t ≤ Xc α β z (k + 1) s := by
  rw [Xc_s h]
  have := Xc_m α β z k (s := t) (t := min (s + 1) k) (by omega)
  omega
theorem Xc_b {α β z k s : Nat} : β + Xc α β z k s + Xc α β z k 1 ≤ Xc α β z (k + 1) (s + 1) := by
  rw [Xc_s (by omega), Nat.add_sub_cancel]
  omega
theorem Xc_u {α β z k s : Nat} (h : s ≤ k) : Xc α β z k s ≤ Xc α β z (k + 1) s := by
  by_cases e : s = 0
  · rw [e, Xc_0]; exact Nat.zero_le _
  · exact Nat.le_trans (Nat.le_add_left _ α) (Xc_a (by omega) (Nat.le_succ s) h)
theorem Xc_1 : ∀ k, 1 ≤ Xc 0 0 1 k 1
  | 0 => Nat.le_refl _
  | k + 1 => by
    have h1 := Xc_1 k
    have h := Xc_b (α := 0) (β := 0) (z := 1) (k := k) (s := 0)
    show 1 ≤ Xc 0 0 1 (k + 1) (0 + 1)
    generalize Xc 0 0 1 (k + 1) (0 + 1) = y at h ⊢
    generalize Xc 0 0 1 k 0 = x at h
    generalize Xc 0 0 1 k 1 = x2 at h h1
    omega
def stp9 (α β : Nat) (t : List Nat) (k : Nat) : List Nat := 0 :: (List.range (k + 2)).map (fun i => max (α + t.getD (min (i + 2) k) 0) (β + t.getD i 0 + t.getD 1 0))
def row9 (α β z : Nat) (k : Nat) (t : List Nat) : Prop := ∀ s, s ≤ k + 1 → t.getD s 0 = Xc α β z k s
theorem row9_0 (α β z : Nat) : row9 α β z 0 [0, z] := fun s hs => by
  by_cases e : s = 0
  · subst e; rfl
  · have e1 : s = 1 := by omega
    subst e1; rfl
theorem row9_s {α β z k : Nat} {t : List Nat} (h : row9 α β z k t) : row9 α β z (k + 1) (stp9 α β t k) := fun s hs => by
  cases s with
  | zero => rfl
  | succ i =>
    rw [Xc_s (by omega), Nat.add_sub_cancel]
    unfold stp9
    rw [List.getD_cons_succ, List.getD_eq_getElem?_getD, List.getElem?_map, List.getElem?_range (by omega)]
    show max (α + t.getD (min (i + 2) k) 0) (β + t.getD i 0 + t.getD 1 0) = _
    rw [h (min (i + 2) k) (by omega), h i (by omega), h 1 (by omega)]
theorem row9_e {α β z k : Nat} {t u : List Nat} (h : row9 α β z k t) (e : t = u) : row9 α β z k u := e ▸ h
theorem rG_0 : row9 1 1 0 0 [0, 0] := row9_0 _ _ _
theorem rG_1 : row9 1 1 0 1 [0, 1, 1] := row9_e (row9_s rG_0) (by decide)
theorem rG_2 : row9 1 1 0 2 [0, 2, 3, 3] := row9_e (row9_s rG_1) (by decide)
theorem rG_3 : row9 1 1 0 3 [0, 4, 5, 6, 6] := row9_e (row9_s rG_2) (by decide)
theorem rG_4 : row9 1 1 0 4 [0, 6, 9, 10, 11, 11] := row9_e (row9_s rG_3) (by decide)
theorem rG_5 : row9 1 1 0 5 [0, 10, 13, 16, 17, 18, 18] := row9_e (row9_s rG_4) (by decide)
theorem rG_6 : row9 1 1 0 6 [0, 14, 21, 24, 27, 28, 29, 29] := row9_e (row9_s rG_5) (by decide)
theorem rG_7 : row9 1 1 0 7 [0, 22, 29, 36, 39, 42, 43, 44, 44] := row9_e (row9_s rG_6) (by decide)
theorem rG_8 : row9 1 1 0 8 [0, 30, 45, 52, 59, 62, 65, 66, 67, 67] := row9_e (row9_s rG_7) (by decide)
theorem rG_9 : row9 1 1 0 9 [0, 46, 61, 76, 83, 90, 93, 96, 97, 98, 98] := row9_e (row9_s rG_8) (by decide)
theorem rG_10 : row9 1 1 0 10 [0, 62, 93, 108, 123, 130, 137, 140, 143, 144, 145, 145] := row9_e (row9_s rG_9) (by decide)
theorem rG_11 : row9 1 1 0 11 [0, 94, 125, 156, 171, 186, 193, 200, 203, 206, 207, 208, 208] := row9_e (row9_s rG_10) (by decide)
theorem rG_12 : row9 1 1 0 12 [0, 126, 189, 220, 251, 266, 281, 288, 295, 298, 301, 302, 303, 303] := row9_e (row9_s rG_11) (by decide)
theorem rG_13 : row9 1 1 0 13 [0, 190, 253, 316, 347, 378, 393, 408, 415, 422, 425, 428, 429, 430, 430] := row9_e (row9_s rG_12) (by decide)
theorem rG_14 : row9 1 1 0 14 [0, 254, 381, 444, 507, 538, 569, 584, 599, 606, 613, 616, 619, 620, 621, 621] := row9_e (row9_s rG_13) (by decide)
theorem rG_15 : row9 1 1 0 15 [0, 382, 509, 636, 699, 762, 793, 824, 839, 854, 861, 868, 871, 874, 875, 876, 876] := row9_e (row9_s rG_14) (by decide)
theorem rG_16 : row9 1 1 0 16 [0, 510, 765, 892, 1019, 1082, 1145, 1176, 1207, 1222, 1237, 1244, 1251, 1254, 1257, 1258, 1259, 1259] := row9_e (row9_s rG_15) (by decide)
theorem rG_17 : row9 1 1 0 17 [0, 766, 1021, 1276, 1403, 1530, 1593, 1656, 1687, 1718, 1733, 1748, 1755, 1762, 1765, 1768, 1769, 1770, 1770] := row9_e (row9_s rG_16) (by decide)
theorem rG_18 : row9 1 1 0 18 [0, 1022, 1533, 1788, 2043, 2170, 2297, 2360, 2423, 2454, 2485, 2500, 2515, 2522, 2529, 2532, 2535, 2536, 2537, 2537] := row9_e (row9_s rG_17) (by decide)
theorem rG_19 : row9 1 1 0 19 [0, 1534, 2045, 2556, 2811, 3066, 3193, 3320, 3383, 3446, 3477, 3508, 3523, 3538, 3545, 3552, 3555, 3558, 3559, 3560, 3560] := row9_e (row9_s rG_18) (by decide)
theorem rG_20 : row9 1 1 0 20 [0, 2046, 3069, 3580, 4091, 4346, 4601, 4728, 4855, 4918, 4981, 5012, 5043, 5058, 5073, 5080, 5087, 5090, 5093, 5094, 5095, 5095] := row9_e (row9_s rG_19) (by decide)
theorem rG_21 : row9 1 1 0 21 [0, 3070, 4093, 5116, 5627, 6138, 6393, 6648, 6775, 6902, 6965, 7028, 7059, 7090, 7105, 7120, 7127, 7134, 7137, 7140, 7141, 7142, 7142] := row9_e (row9_s rG_20) (by decide)
theorem rG_22 : row9 1 1 0 22 [0, 4094, 6141, 7164, 8187, 8698, 9209, 9464, 9719, 9846, 9973, 10036, 10099, 10130, 10161, 10176, 10191, 10198, 10205, 10208, 10211, 10212, 10213, 10213] := row9_e (row9_s rG_21) (by decide)
theorem rG_23 : row9 1 1 0 23 [0, 6142, 8189, 10236, 11259, 12282, 12793, 13304, 13559, 13814, 13941, 14068, 14131, 14194, 14225, 14256, 14271, 14286, 14293, 14300, 14303, 14306, 14307, 14308, 14308] := row9_e (row9_s rG_22) (by decide)
theorem rG_24 : row9 1 1 0 24 [0, 8190, 12285, 14332, 16379, 17402, 18425, 18936, 19447, 19702, 19957, 20084, 20211, 20274, 20337, 20368, 20399, 20414, 20429, 20436, 20443, 20446, 20449, 20450, 20451, 20451] := row9_e (row9_s rG_23) (by decide)
theorem rF_0 : row9 0 1 0 0 [0, 0] := row9_0 _ _ _
theorem rF_1 : row9 0 1 0 1 [0, 1, 1] := row9_e (row9_s rF_0) (by decide)
theorem rF_2 : row9 0 1 0 2 [0, 2, 3, 3] := row9_e (row9_s rF_1) (by decide)
theorem rF_3 : row9 0 1 0 3 [0, 3, 5, 6, 6] := row9_e (row9_s rF_2) (by decide)
theorem rF_4 : row9 0 1 0 4 [0, 5, 7, 9, 10, 10] := row9_e (row9_s rF_3) (by decide)
theorem rF_5 : row9 0 1 0 5 [0, 7, 11, 13, 15, 16, 16] := row9_e (row9_s rF_4) (by decide)
theorem rF_6 : row9 0 1 0 6 [0, 11, 15, 19, 21, 23, 24, 24] := row9_e (row9_s rF_5) (by decide)
theorem rF_7 : row9 0 1 0 7 [0, 15, 23, 27, 31, 33, 35, 36, 36] := row9_e (row9_s rF_6) (by decide)
theorem rF_8 : row9 0 1 0 8 [0, 23, 31, 39, 43, 47, 49, 51, 52, 52] := row9_e (row9_s rF_7) (by decide)
theorem rF_9 : row9 0 1 0 9 [0, 31, 47, 55, 63, 67, 71, 73, 75, 76, 76] := row9_e (row9_s rF_8) (by decide)
theorem rF_10 : row9 0 1 0 10 [0, 47, 63, 79, 87, 95, 99, 103, 105, 107, 108, 108] := row9_e (row9_s rF_9) (by decide)
theorem rF_11 : row9 0 1 0 11 [0, 63, 95, 111, 127, 135, 143, 147, 151, 153, 155, 156, 156] := row9_e (row9_s rF_10) (by decide)
theorem rF_12 : row9 0 1 0 12 [0, 95, 127, 159, 175, 191, 199, 207, 211, 215, 217, 219, 220, 220] := row9_e (row9_s rF_11) (by decide)
theorem rF_13 : row9 0 1 0 13 [0, 127, 191, 223, 255, 271, 287, 295, 303, 307, 311, 313, 315, 316, 316] := row9_e (row9_s rF_12) (by decide)
theorem rF_14 : row9 0 1 0 14 [0, 191, 255, 319, 351, 383, 399, 415, 423, 431, 435, 439, 441, 443, 444, 444] := row9_e (row9_s rF_13) (by decide)
theorem rF_15 : row9 0 1 0 15 [0, 255, 383, 447, 511, 543, 575, 591, 607, 615, 623, 627, 631, 633, 635, 636, 636] := row9_e (row9_s rF_14) (by decide)
theorem rF_16 : row9 0 1 0 16 [0, 383, 511, 639, 703, 767, 799, 831, 847, 863, 871, 879, 883, 887, 889, 891, 892, 892] := row9_e (row9_s rF_15) (by decide)
theorem rF_17 : row9 0 1 0 17 [0, 511, 767, 895, 1023, 1087, 1151, 1183, 1215, 1231, 1247, 1255, 1263, 1267, 1271, 1273, 1275, 1276, 1276] := row9_e (row9_s rF_16) (by decide)
theorem rF_18 : row9 0 1 0 18 [0, 767, 1023, 1279, 1407, 1535, 1599, 1663, 1695, 1727, 1743, 1759, 1767, 1775, 1779, 1783, 1785, 1787, 1788, 1788] := row9_e (row9_s rF_17) (by decide)
theorem rF_19 : row9 0 1 0 19 [0, 1023, 1535, 1791, 2047, 2175, 2303, 2367, 2431, 2463, 2495, 2511, 2527, 2535, 2543, 2547, 2551, 2553, 2555, 2556, 2556] := row9_e (row9_s rF_18) (by decide)
theorem rF_20 : row9 0 1 0 20 [0, 1535, 2047, 2559, 2815, 3071, 3199, 3327, 3391, 3455, 3487, 3519, 3535, 3551, 3559, 3567, 3571, 3575, 3577, 3579, 3580, 3580] := row9_e (row9_s rF_19) (by decide)
theorem rF_21 : row9 0 1 0 21 [0, 2047, 3071, 3583, 4095, 4351, 4607, 4735, 4863, 4927, 4991, 5023, 5055, 5071, 5087, 5095, 5103, 5107, 5111, 5113, 5115, 5116, 5116] := row9_e (row9_s rF_20) (by decide)
theorem rF_22 : row9 0 1 0 22 [0, 3071, 4095, 5119, 5631, 6143, 6399, 6655, 6783, 6911, 6975, 7039, 7071, 7103, 7119, 7135, 7143, 7151, 7155, 7159, 7161, 7163, 7164, 7164] := row9_e (row9_s rF_21) (by decide)
theorem rF_23 : row9 0 1 0 23 [0, 4095, 6143, 7167, 8191, 8703, 9215, 9471, 9727, 9855, 9983, 10047, 10111, 10143, 10175, 10191, 10207, 10215, 10223, 10227, 10231, 10233, 10235, 10236, 10236] := row9_e (row9_s rF_22) (by decide)
theorem rF_24 : row9 0 1 0 24 [0, 6143, 8191, 10239, 11263, 12287, 12799, 13311, 13567, 13823, 13951, 14079, 14143, 14207, 14239, 14271, 14287, 14303, 14311, 14319, 14323, 14327, 14329, 14331, 14332, 14332] := row9_e (row9_s rF_23) (by decide)
theorem rH_0 : row9 0 0 1 0 [0, 1] := row9_0 _ _ _
theorem rH_1 : row9 0 0 1 1 [0, 1, 2] := row9_e (row9_s rH_0) (by decide)
theorem rH_2 : row9 0 0 1 2 [0, 1, 2, 3] := row9_e (row9_s rH_1) (by decide)
theorem rH_3 : row9 0 0 1 3 [0, 2, 2, 3, 4] := row9_e (row9_s rH_2) (by decide)
theorem rH_4 : row9 0 0 1 4 [0, 2, 4, 4, 5, 6] := row9_e (row9_s rH_3) (by decide)
theorem rH_5 : row9 0 0 1 5 [0, 4, 4, 6, 6, 7, 8] := row9_e (row9_s rH_4) (by decide)
theorem rH_6 : row9 0 0 1 6 [0, 4, 8, 8, 10, 10, 11, 12] := row9_e (row9_s rH_5) (by decide)
theorem rH_7 : row9 0 0 1 7 [0, 8, 8, 12, 12, 14, 14, 15, 16] := row9_e (row9_s rH_6) (by decide)
theorem rH_8 : row9 0 0 1 8 [0, 8, 16, 16, 20, 20, 22, 22, 23, 24] := row9_e (row9_s rH_7) (by decide)
theorem rH_9 : row9 0 0 1 9 [0, 16, 16, 24, 24, 28, 28, 30, 30, 31, 32] := row9_e (row9_s rH_8) (by decide)
theorem rH_10 : row9 0 0 1 10 [0, 16, 32, 32, 40, 40, 44, 44, 46, 46, 47, 48] := row9_e (row9_s rH_9) (by decide)
theorem rH_11 : row9 0 0 1 11 [0, 32, 32, 48, 48, 56, 56, 60, 60, 62, 62, 63, 64] := row9_e (row9_s rH_10) (by decide)
theorem rH_12 : row9 0 0 1 12 [0, 32, 64, 64, 80, 80, 88, 88, 92, 92, 94, 94, 95, 96] := row9_e (row9_s rH_11) (by decide)
theorem rH_13 : row9 0 0 1 13 [0, 64, 64, 96, 96, 112, 112, 120, 120, 124, 124, 126, 126, 127, 128] := row9_e (row9_s rH_12) (by decide)
theorem rH_14 : row9 0 0 1 14 [0, 64, 128, 128, 160, 160, 176, 176, 184, 184, 188, 188, 190, 190, 191, 192] := row9_e (row9_s rH_13) (by decide)
theorem rH_15 : row9 0 0 1 15 [0, 128, 128, 192, 192, 224, 224, 240, 240, 248, 248, 252, 252, 254, 254, 255, 256] := row9_e (row9_s rH_14) (by decide)
theorem rH_16 : row9 0 0 1 16 [0, 128, 256, 256, 320, 320, 352, 352, 368, 368, 376, 376, 380, 380, 382, 382, 383, 384] := row9_e (row9_s rH_15) (by decide)
theorem rH_17 : row9 0 0 1 17 [0, 256, 256, 384, 384, 448, 448, 480, 480, 496, 496, 504, 504, 508, 508, 510, 510, 511, 512] := row9_e (row9_s rH_16) (by decide)
theorem rH_18 : row9 0 0 1 18 [0, 256, 512, 512, 640, 640, 704, 704, 736, 736, 752, 752, 760, 760, 764, 764, 766, 766, 767, 768] := row9_e (row9_s rH_17) (by decide)
theorem rH_19 : row9 0 0 1 19 [0, 512, 512, 768, 768, 896, 896, 960, 960, 992, 992, 1008, 1008, 1016, 1016, 1020, 1020, 1022, 1022, 1023, 1024] := row9_e (row9_s rH_18) (by decide)
theorem rH_20 : row9 0 0 1 20 [0, 512, 1024, 1024, 1280, 1280, 1408, 1408, 1472, 1472, 1504, 1504, 1520, 1520, 1528, 1528, 1532, 1532, 1534, 1534, 1535, 1536] := row9_e (row9_s rH_19) (by decide)
theorem rH_21 : row9 0 0 1 21 [0, 1024, 1024, 1536, 1536, 1792, 1792, 1920, 1920, 1984, 1984, 2016, 2016, 2032, 2032, 2040, 2040, 2044, 2044, 2046, 2046, 2047, 2048] := row9_e (row9_s rH_20) (by decide)
theorem rH_22 : row9 0 0 1 22 [0, 1024, 2048, 2048, 2560, 2560, 2816, 2816, 2944, 2944, 3008, 3008, 3040, 3040, 3056, 3056, 3064, 3064, 3068, 3068, 3070, 3070, 3071, 3072] := row9_e (row9_s rH_21) (by decide)
theorem rH_23 : row9 0 0 1 23 [0, 2048, 2048, 3072, 3072, 3584, 3584, 3840, 3840, 3968, 3968, 4032, 4032, 4064, 4064, 4080, 4080, 4088, 4088, 4092, 4092, 4094, 4094, 4095, 4096] := row9_e (row9_s rH_22) (by decide)
theorem rH_24 : row9 0 0 1 24 [0, 2048, 4096, 4096, 5120, 5120, 5632, 5632, 5888, 5888, 6016, 6016, 6080, 6080, 6112, 6112, 6128, 6128, 6136, 6136, 6140, 6140, 6142, 6142, 6143, 6144] := row9_e (row9_s rH_23) (by decide)
/-- the sums over the roots -/
def SG : Nat → Nat
  | 0 => 0
  | r + 1 => SG r + 6 * Xc 1 1 0 (r + 1) 1
def SF : Nat → Nat
  | 0 => 0
  | r + 1 => SF r + (6 * Xc 0 1 0 (r + 1) 1 + 110 * Xc 0 0 1 (r + 1) 1)
theorem SG_0 : SG 0 = 0 := rfl
theorem SF_0 : SF 0 = 0 := rfl
theorem SG_s {r a b : Nat} (h : SG r = a) (h2 : Xc 1 1 0 (r + 1) 1 = b) : SG (r + 1) = a + 6 * b := by rw [SG, h, h2]
theorem SF_s {r a b d : Nat} (h : SF r = a) (h2 : Xc 0 1 0 (r + 1) 1 = b) (h3 : Xc 0 0 1 (r + 1) 1 = d) : SF (r + 1) = a + (6 * b + 110 * d) := by rw [SF, h, h2, h3]
theorem SG_1 : SG 1 = 6 := SG_s (a := 0) (b := 1) SG_0 (rG_1 1 (by decide)).symm
theorem SF_1 : SF 1 = 116 := SF_s (a := 0) (b := 1) (d := 1) SF_0 (rF_1 1 (by decide)).symm (rH_1 1 (by decide)).symm
theorem SG_2 : SG 2 = 18 := SG_s (a := 6) (b := 2) SG_1 (rG_2 1 (by decide)).symm
theorem SF_2 : SF 2 = 238 := SF_s (a := 116) (b := 2) (d := 1) SF_1 (rF_2 1 (by decide)).symm (rH_2 1 (by decide)).symm
theorem SG_3 : SG 3 = 42 := SG_s (a := 18) (b := 4) SG_2 (rG_3 1 (by decide)).symm
theorem SF_3 : SF 3 = 476 := SF_s (a := 238) (b := 3) (d := 2) SF_2 (rF_3 1 (by decide)).symm (rH_3 1 (by decide)).symm
theorem SG_4 : SG 4 = 78 := SG_s (a := 42) (b := 6) SG_3 (rG_4 1 (by decide)).symm
theorem SF_4 : SF 4 = 726 := SF_s (a := 476) (b := 5) (d := 2) SF_3 (rF_4 1 (by decide)).symm (rH_4 1 (by decide)).symm
theorem SG_5 : SG 5 = 138 := SG_s (a := 78) (b := 10) SG_4 (rG_5 1 (by decide)).symm
theorem SF_5 : SF 5 = 1208 := SF_s (a := 726) (b := 7) (d := 4) SF_4 (rF_5 1 (by decide)).symm (rH_5 1 (by decide)).symm
theorem SG_6 : SG 6 = 222 := SG_s (a := 138) (b := 14) SG_5 (rG_6 1 (by decide)).symm
theorem SF_6 : SF 6 = 1714 := SF_s (a := 1208) (b := 11) (d := 4) SF_5 (rF_6 1 (by decide)).symm (rH_6 1 (by decide)).symm
theorem SG_7 : SG 7 = 354 := SG_s (a := 222) (b := 22) SG_6 (rG_7 1 (by decide)).symm
theorem SF_7 : SF 7 = 2684 := SF_s (a := 1714) (b := 15) (d := 8) SF_6 (rF_7 1 (by decide)).symm (rH_7 1 (by decide)).symm
theorem SG_8 : SG 8 = 534 := SG_s (a := 354) (b := 30) SG_7 (rG_8 1 (by decide)).symm
theorem SF_8 : SF 8 = 3702 := SF_s (a := 2684) (b := 23) (d := 8) SF_7 (rF_8 1 (by decide)).symm (rH_8 1 (by decide)).symm
theorem SG_9 : SG 9 = 810 := SG_s (a := 534) (b := 46) SG_8 (rG_9 1 (by decide)).symm
theorem SF_9 : SF 9 = 5648 := SF_s (a := 3702) (b := 31) (d := 16) SF_8 (rF_9 1 (by decide)).symm (rH_9 1 (by decide)).symm
theorem SG_10 : SG 10 = 1182 := SG_s (a := 810) (b := 62) SG_9 (rG_10 1 (by decide)).symm
theorem SF_10 : SF 10 = 7690 := SF_s (a := 5648) (b := 47) (d := 16) SF_9 (rF_10 1 (by decide)).symm (rH_10 1 (by decide)).symm
theorem SG_11 : SG 11 = 1746 := SG_s (a := 1182) (b := 94) SG_10 (rG_11 1 (by decide)).symm
theorem SF_11 : SF 11 = 11588 := SF_s (a := 7690) (b := 63) (d := 32) SF_10 (rF_11 1 (by decide)).symm (rH_11 1 (by decide)).symm
theorem SG_12 : SG 12 = 2502 := SG_s (a := 1746) (b := 126) SG_11 (rG_12 1 (by decide)).symm
theorem SF_12 : SF 12 = 15678 := SF_s (a := 11588) (b := 95) (d := 32) SF_11 (rF_12 1 (by decide)).symm (rH_12 1 (by decide)).symm
theorem SG_13 : SG 13 = 3642 := SG_s (a := 2502) (b := 190) SG_12 (rG_13 1 (by decide)).symm
theorem SF_13 : SF 13 = 23480 := SF_s (a := 15678) (b := 127) (d := 64) SF_12 (rF_13 1 (by decide)).symm (rH_13 1 (by decide)).symm
theorem SG_14 : SG 14 = 5166 := SG_s (a := 3642) (b := 254) SG_13 (rG_14 1 (by decide)).symm
theorem SF_14 : SF 14 = 31666 := SF_s (a := 23480) (b := 191) (d := 64) SF_13 (rF_14 1 (by decide)).symm (rH_14 1 (by decide)).symm
theorem SG_15 : SG 15 = 7458 := SG_s (a := 5166) (b := 382) SG_14 (rG_15 1 (by decide)).symm
theorem SF_15 : SF 15 = 47276 := SF_s (a := 31666) (b := 255) (d := 128) SF_14 (rF_15 1 (by decide)).symm (rH_15 1 (by decide)).symm
theorem SG_16 : SG 16 = 10518 := SG_s (a := 7458) (b := 510) SG_15 (rG_16 1 (by decide)).symm
theorem SF_16 : SF 16 = 63654 := SF_s (a := 47276) (b := 383) (d := 128) SF_15 (rF_16 1 (by decide)).symm (rH_16 1 (by decide)).symm
theorem SG_17 : SG 17 = 15114 := SG_s (a := 10518) (b := 766) SG_16 (rG_17 1 (by decide)).symm
theorem SF_17 : SF 17 = 94880 := SF_s (a := 63654) (b := 511) (d := 256) SF_16 (rF_17 1 (by decide)).symm (rH_17 1 (by decide)).symm
theorem SG_18 : SG 18 = 21246 := SG_s (a := 15114) (b := 1022) SG_17 (rG_18 1 (by decide)).symm
theorem SF_18 : SF 18 = 127642 := SF_s (a := 94880) (b := 767) (d := 256) SF_17 (rF_18 1 (by decide)).symm (rH_18 1 (by decide)).symm
theorem SG_19 : SG 19 = 30450 := SG_s (a := 21246) (b := 1534) SG_18 (rG_19 1 (by decide)).symm
theorem SF_19 : SF 19 = 190100 := SF_s (a := 127642) (b := 1023) (d := 512) SF_18 (rF_19 1 (by decide)).symm (rH_19 1 (by decide)).symm
theorem SG_20 : SG 20 = 42726 := SG_s (a := 30450) (b := 2046) SG_19 (rG_20 1 (by decide)).symm
theorem SF_20 : SF 20 = 255630 := SF_s (a := 190100) (b := 1535) (d := 512) SF_19 (rF_20 1 (by decide)).symm (rH_20 1 (by decide)).symm
theorem SG_21 : SG 21 = 61146 := SG_s (a := 42726) (b := 3070) SG_20 (rG_21 1 (by decide)).symm
theorem SF_21 : SF 21 = 380552 := SF_s (a := 255630) (b := 2047) (d := 1024) SF_20 (rF_21 1 (by decide)).symm (rH_21 1 (by decide)).symm
theorem SG_22 : SG 22 = 85710 := SG_s (a := 61146) (b := 4094) SG_21 (rG_22 1 (by decide)).symm
theorem SF_22 : SF 22 = 511618 := SF_s (a := 380552) (b := 3071) (d := 1024) SF_21 (rF_22 1 (by decide)).symm (rH_22 1 (by decide)).symm
theorem SG_23 : SG 23 = 122562 := SG_s (a := 85710) (b := 6142) SG_22 (rG_23 1 (by decide)).symm
theorem SF_23 : SF 23 = 761468 := SF_s (a := 511618) (b := 4095) (d := 2048) SF_22 (rF_23 1 (by decide)).symm (rH_23 1 (by decide)).symm
theorem SG_24 : SG 24 = 171702 := SG_s (a := 122562) (b := 8190) SG_23 (rG_24 1 (by decide)).symm
theorem SF_24 : SF 24 = 1023606 := SF_s (a := 761468) (b := 6143) (d := 2048) SF_23 (rF_24 1 (by decide)).symm (rH_24 1 (by decide)).symm
theorem SG_m : ∀ {r t : Nat}, r ≤ t → SG r ≤ SG t
  | r, 0, h => by
    have : r = 0 := by omega
    subst this; exact Nat.le_refl _
  | r, t + 1, h => by
    by_cases e : r = t + 1
    · subst e; exact Nat.le_refl _
    · have := SG_m (r := r) (t := t) (by omega)
      rw [SG]; omega
theorem SF_m : ∀ {r t : Nat}, r ≤ t → SF r ≤ SF t
  | r, 0, h => by
    have : r = 0 := by omega
    subst this; exact Nat.le_refl _
  | r, t + 1, h => by
    by_cases e : r = t + 1
    · subst e; exact Nat.le_refl _
    · have := SF_m (r := r) (t := t) (by omega)
      rw [SF]; omega
