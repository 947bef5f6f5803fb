/-! changes in an order: what is meant; stores of longs -/
theorem zLv.put2 {ad : Nat → Nat} {ls' : Array Slot} {lv : List (Option Value)} {i : Nat} {v : Value} (hi : i + 1 < lv.length) (hp : ∀ o, lv[i - 1]? = some o → i = 0 ∨ zc1 o)
    (h : lv_has ls' lv.length ((i, zcv ad v) :: (zal ad lv).filter (fun q => !(q.1 == i) && (!(q.1 == i + 1) && !(q.1 + 1 == i && q.2.category == 2))))) : zLv ad ls' ((lv.set (i + 1) none).set i (some v)) := by
  refine zLv.of h (by simp) (fun k w hk => ?_)
  by_cases hki : k = i
  · subst hki
    rw [List.getElem?_set_self (by simp; omega)] at hk
    cases hk
    exact List.mem_cons_self
  · rw [List.getElem?_set_ne (fun x => hki x.symm)] at hk
    by_cases hk1 : k = i + 1
    · subst hk1
      rw [List.getElem?_set_self hi] at hk
      cases hk
    · rw [List.getElem?_set_ne (fun x => hk1 x.symm)] at hk
      refine List.mem_cons_of_mem _ (List.mem_filter.mpr ⟨zal_in hk, ?_⟩)
      by_cases h1 : k + 1 = i
      · have h2 : lv[i - 1]? = some (some w) := by rw [show i - 1 = k by omega]; exact hk
        rcases hp _ h2 with h3 | h3
        · omega
        · have h4 := h3 w rfl
          simp [hki, hk1, zcv_cat, h4]
      · simp [hki, hk1, h1]
theorem zY.lstore2 {Γ : zCx} {ω : zOm} {k : zMth} {d pc : Nat} {lv : List (Option Value)} {st : List Value} {μ : zMem} {o0 o1 o2 o3 : Option Value} {a : Int} (hp : zc1 o1) (hO : zok Γ k d) (hd : decode k.2.1 pc = .ok (.lstore_n 2, 1)) (kk : zY Γ ω (pc + 1) (o0 :: o1 :: some (zJ a) :: none :: lv) st μ) : zY Γ ω pc (o0 :: o1 :: o2 :: o3 :: lv) (zJ a :: st) μ :=
  fun H locs ls hW hS hL => lv_lstore_n (i := 2) hO.1 hO.2.1 hd rfl hL.has (by simp) rfl (fun ls' h' => kk H locs ls' hW hS (zLv.put2 (v := zJ a) (lv := o0 :: o1 :: o2 :: o3 :: lv) (i := 2) (by simp) (fun o ho => by cases ho; exact Or.inr hp) h'))
theorem zY.lstore7 {Γ : zCx} {ω : zOm} {k : zMth} {d pc : Nat} {lv : List (Option Value)} {st : List Value} {μ : zMem} {o0 o1 o2 o3 o4 o5 o6 o7 o8 : Option Value} {a : Int} (hp : zc1 o6) (hO : zok Γ k d) (hd : decode k.2.1 pc = .ok (.lstore 7, 2)) (kk : zY Γ ω (pc + 2) (o0 :: o1 :: o2 :: o3 :: o4 :: o5 :: o6 :: some (zJ a) :: none :: lv) st μ) : zY Γ ω pc (o0 :: o1 :: o2 :: o3 :: o4 :: o5 :: o6 :: o7 :: o8 :: lv) (zJ a :: st) μ :=
  fun H locs ls hW hS hL => lv_lstore (i := 7) hO.1 hO.2.1 hd hL.has (by simp) rfl (fun ls' h' => kk H locs ls' hW hS (zLv.put2 (v := zJ a) (lv := o0 :: o1 :: o2 :: o3 :: o4 :: o5 :: o6 :: o7 :: o8 :: lv) (i := 7) (by simp) (fun o ho => by cases ho; exact Or.inr hp) h'))
/-- the least of 2 to the 60 and of what 64 ways cost -/
def zmnn (F : Nat → Int) : Nat → Int
  | 0 => 1152921504606846976
  | k + 1 => min (zmnn F k) (F k)
def zown (p ch : Nat) : Int := zpc ch * 68719476736 + (ch : Int) * ((2 ^ (6 * (5 - p)) : Nat) : Int)
abbrev zcan (D : zBk) (p ch : Nat) (f : Nat → Int) : Prop := zbx D (zord D p) ch ≠ -6 ∧ zlk (znd D (zord D p) ch) f = 0
/-- the best way from place p on, k sheets to go -/
def zlf (D : zBk) : Nat → Nat → (Nat → Int) → Int
  | 0, _, _ => 0
  | k + 1, p, f => zmnn (fun ch => if zcan D p ch f then zown p ch + zlf D k (p + 1) (zls f (zbx D (zord D p) ch)) else 1152921504606846976) 64
def zA_changes (D : zBk) (i : Int) : Int := if zflt D 2 = -6 then (if -1 ≤ i ∧ i ≤ D 10 0 - 1 then (if zlf D (zN D) 0 (D 5) < 1152921504606846976 then (if i < 0 then zlf D (zN D) 0 (D 5) / 68719476736 else (zlf D (zN D) 0 (D 5) / ((2 ^ (6 * (5 - i.toNat)) : Nat) : Int)) % 64) else -6) else -6) else -5
theorem zmnn_b {F : Nat → Int} : ∀ k, (∀ x, x < k → 0 ≤ F x) → 0 ≤ zmnn F k ∧ zmnn F k ≤ 1152921504606846976
  | 0, _ => by simp [zmnn]
  | k + 1, h => by
    have h1 := zmnn_b k (fun x hx => h x (by omega))
    have h2 := h k (by omega)
    simp only [zmnn]
    omega
theorem zown_b (p ch : Nat) : 0 ≤ zown p ch := by
  have h1 := (zpc_b ch).1
  have h2 : (0 : Int) ≤ (ch : Int) * ((2 ^ (6 * (5 - p)) : Nat) : Int) := Int.mul_nonneg (Int.natCast_nonneg _) (Int.natCast_nonneg _)
  unfold zown
  omega
theorem zlf_b (D : zBk) : ∀ k p f, 0 ≤ zlf D k p f ∧ zlf D k p f ≤ 1152921504606846976
  | 0, _, _ => by simp [zlf]
  | k + 1, p, f => by
    refine zmnn_b 64 (fun ch _ => ?_)
    show 0 ≤ (if zcan D p ch f then zown p ch + zlf D k (p + 1) (zls f (zbx D (zord D p) ch)) else 1152921504606846976)
    split
    · have h1 := zown_b p ch
      have h2 := zlf_b D k (p + 1) (zls f (zbx D (zord D p) ch))
      omega
    · decide
theorem zmnn_congr {F F2 : Nat → Int} : ∀ k, (∀ x, x < k → F x = F2 x) → zmnn F k = zmnn F2 k
  | 0, _ => rfl
  | k + 1, h => by simp only [zmnn]; rw [zmnn_congr k (fun x hx => h x (by omega)), h k (by omega)]
theorem zlf_congr {D : zBk} : ∀ k p (f f2 : Nat → Int), (∀ x, x < 6 → f x = f2 x) → zlf D k p f = zlf D k p f2
  | 0, _, _, _, _ => rfl
  | k + 1, p, f, f2, h => by
    refine zmnn_congr 64 (fun ch _ => ?_)
    have h1 : zlk (znd D (zord D p) ch) f = zlk (znd D (zord D p) ch) f2 := zlk_congr (fun _ _ => rfl) h
    have h2 := zlf_congr (D := D) k (p + 1) (zls f (zbx D (zord D p) ch)) (zls f2 (zbx D (zord D p) ch)) (fun x hx => zls_congr (h x hx))
    show (if zcan D p ch f then zown p ch + zlf D k (p + 1) (zls f (zbx D (zord D p) ch)) else 1152921504606846976) = (if zcan D p ch f2 then zown p ch + zlf D k (p + 1) (zls f2 (zbx D (zord D p) ch)) else 1152921504606846976)
    unfold zcan
    rw [h1, h2]
/-! a number of its own for each loss -/
def zchL : List Nat := [1, 0, 0, 0, 0, 0, 0, 1, 1, 0, 0, 0, 0, 0, 1, 2, 1, 0, 0, 0, 0, 1, 3, 3, 1, 0, 0, 0, 1, 4, 6, 4, 1, 0, 0, 1, 5, 10, 10, 5, 1, 0, 1, 6, 15, 20, 15, 6, 1, 1, 7, 21, 35, 35, 21, 7, 1, 8, 28, 56, 70, 56, 28, 1, 9, 36, 84, 126, 126, 84, 1, 10, 45, 120, 210, 252, 210]
def zcht (j : Nat) : Int := ((zchL.getD j 0 : Nat) : Int)
def zdcL : List Nat := [0, 7776, 1296, 216, 36, 6, 1, 15552, 9072, 7992, 7812, 7782, 7777, 2592, 1512, 1332, 1302, 1297, 432, 252, 222, 217, 72, 42, 37, 12, 7, 2, 23328, 16848, 15768, 15588, 15558, 15553, 10368, 9288, 9108, 9078, 9073, 8208, 8028, 7998, 7993, 7848, 7818, 7813, 7788, 7783, 7778, 3888, 2808, 2628, 2598, 2593, 1728, 1548, 1518, 1513, 1368, 1338, 1333, 1308, 1303, 1298, 648, 468, 438, 433, 288, 258, 253, 228, 223, 218, 108, 78, 73, 48, 43, 38, 18, 13, 8, 3, 31104, 24624, 23544, 23364, 23334, 23329, 18144, 17064, 16884, 16854, 16849, 15984, 15804, 15774, 15769, 15624, 15594, 15589, 15564, 15559, 15554, 11664, 10584, 10404, 10374, 10369, 9504, 9324, 9294, 9289, 9144, 9114, 9109, 9084, 9079, 9074, 8424, 8244, 8214, 8209, 8064, 8034, 8029, 8004, 7999, 7994, 7884, 7854, 7849, 7824, 7819, 7814, 7794, 7789, 7784, 7779, 5184, 4104, 3924, 3894, 3889, 3024, 2844, 2814, 2809, 2664, 2634, 2629, 2604, 2599, 2594, 1944, 1764, 1734, 1729, 1584, 1554, 1549, 1524, 1519, 1514, 1404, 1374, 1369, 1344, 1339, 1334, 1314, 1309, 1304, 1299, 864, 684, 654, 649, 504, 474, 469, 444, 439, 434, 324, 294, 289, 264, 259, 254, 234, 229, 224, 219, 144, 114, 109, 84, 79, 74, 54, 49, 44, 39, 24, 19, 14, 9, 4, 38880, 32400, 31320, 31140, 31110, 31105, 25920, 24840, 24660, 24630, 24625, 23760, 23580, 23550, 23545, 23400, 23370, 23365, 23340, 23335, 23330, 19440, 18360, 18180, 18150, 18145, 17280, 17100, 17070, 17065, 16920, 16890, 16885, 16860, 16855, 16850, 16200, 16020, 15990, 15985, 15840, 15810, 15805, 15780, 15775, 15770, 15660, 15630, 15625, 15600, 15595, 15590, 15570, 15565, 15560, 15555, 12960, 11880, 11700, 11670, 11665, 10800, 10620, 10590, 10585, 10440, 10410, 10405, 10380, 10375, 10370, 9720, 9540, 9510, 9505, 9360, 9330, 9325, 9300, 9295, 9290, 9180, 9150, 9145, 9120, 9115, 9110, 9090, 9085, 9080, 9075, 8640, 8460, 8430, 8425, 8280, 8250, 8245, 8220, 8215, 8210, 8100, 8070, 8065, 8040, 8035, 8030, 8010, 8005, 8000, 7995, 7920, 7890, 7885, 7860, 7855, 7850, 7830, 7825, 7820, 7815, 7800, 7795, 7790, 7785, 7780, 6480, 5400, 5220, 5190, 5185, 4320, 4140, 4110, 4105, 3960, 3930, 3925, 3900, 3895, 3890, 3240, 3060, 3030, 3025, 2880, 2850, 2845, 2820, 2815, 2810, 2700, 2670, 2665, 2640, 2635, 2630, 2610, 2605, 2600, 2595, 2160, 1980, 1950, 1945, 1800, 1770, 1765, 1740, 1735, 1730, 1620, 1590, 1585, 1560, 1555, 1550, 1530, 1525, 1520, 1515, 1440, 1410, 1405, 1380, 1375, 1370, 1350, 1345, 1340, 1335, 1320, 1315, 1310, 1305, 1300, 1080, 900, 870, 865, 720, 690, 685, 660, 655, 650, 540, 510, 505, 480, 475, 470, 450, 445, 440, 435, 360, 330, 325, 300, 295, 290, 270, 265, 260, 255, 240, 235, 230, 225, 220, 180, 150, 145, 120, 115, 110, 90, 85, 80, 75, 60, 55, 50, 45, 40, 30, 25, 20, 15, 10, 5]
def zn6 (l0 l1 l2 l3 l4 l5 : Nat) : Nat := zchL.getD (l0 * 7 + 1) 0 + zchL.getD ((l0 + l1 + 1) * 7 + 2) 0 + zchL.getD ((l0 + l1 + l2 + 2) * 7 + 3) 0 + zchL.getD ((l0 + l1 + l2 + l3 + 3) * 7 + 4) 0 + zchL.getD ((l0 + l1 + l2 + l3 + l4 + 4) * 7 + 5) 0 + zchL.getD ((l0 + l1 + l2 + l3 + l4 + l5 + 5) * 7 + 6) 0
def zcode (l0 l1 l2 l3 l4 l5 : Nat) : Nat := l0 + 6 * l1 + 36 * l2 + 216 * l3 + 1296 * l4 + 7776 * l5
def zn6_t (l0 l1 l2 l3 l4 l5 : Nat) : Bool := Nat.blt (zn6 l0 l1 l2 l3 l4 l5) 462 && Nat.beq (zdcL.getD (zn6 l0 l1 l2 l3 l4 l5) 0) (zcode l0 l1 l2 l3 l4 l5)
set_option maxRecDepth 100000 in
theorem zn6_all : ((List.range 6).all fun l0 => (List.range (6 - l0)).all fun l1 => (List.range (6 - l0 - l1)).all fun l2 => (List.range (6 - l0 - l1 - l2)).all fun l3 => (List.range (6 - l0 - l1 - l2 - l3)).all fun l4 => (List.range (6 - l0 - l1 - l2 - l3 - l4)).all fun l5 => zn6_t l0 l1 l2 l3 l4 l5) = true := by decide +kernel
theorem zn6_ok (l0 : Nat) (h0 : l0 < 6) (l1 : Nat) (h1 : l1 < 6 - l0) (l2 : Nat) (h2 : l2 < 6 - l0 - l1) (l3 : Nat) (h3 : l3 < 6 - l0 - l1 - l2) (l4 : Nat) (h4 : l4 < 6 - l0 - l1 - l2 - l3) (l5 : Nat) (h5 : l5 < 6 - l0 - l1 - l2 - l3 - l4) : zn6 l0 l1 l2 l3 l4 l5 < 462 ∧ zdcL.getD (zn6 l0 l1 l2 l3 l4 l5) 0 = zcode l0 l1 l2 l3 l4 l5 := by
  have g0 := List.all_eq_true.mp zn6_all l0 (List.mem_range.mpr h0)
  have g1 := List.all_eq_true.mp g0 l1 (List.mem_range.mpr h1)
  have g2 := List.all_eq_true.mp g1 l2 (List.mem_range.mpr h2)
  have g3 := List.all_eq_true.mp g2 l3 (List.mem_range.mpr h3)
  have g4 := List.all_eq_true.mp g3 l4 (List.mem_range.mpr h4)
  have g5 := List.all_eq_true.mp g4 l5 (List.mem_range.mpr h5)
  unfold zn6_t at g5
  rw [Bool.and_eq_true] at g5
  exact ⟨Nat.le_of_ble_eq_true g5.1, Nat.eq_of_beq_eq_true g5.2⟩
/-- so many are lost, ahead of place p -/
def zfit (D : zBk) (p : Nat) (f : Nat → Int) : Prop := (∀ x, x < 6 → 0 ≤ f x ∧ f x ≤ D 5 x) ∧ zsum (fun t => D 5 t - f t) 6 = p
def znum (D : zBk) (f : Nat → Int) : Int := zsum (fun s => zcht ((zsum (fun t => D 5 t - f t) (s + 1)).toNat * 7 + s * 7 + s + 1)) 6
theorem znum_6 {D : zBk} {p : Nat} {f : Nat → Int} (h : zfit D p f) (hp : p < 6) : ∃ l0 l1 l2 l3 l4 l5 : Nat, (D 5 0 - f 0 = l0 ∧ D 5 1 - f 1 = l1 ∧ D 5 2 - f 2 = l2 ∧ D 5 3 - f 3 = l3 ∧ D 5 4 - f 4 = l4 ∧ D 5 5 - f 5 = l5) ∧ l0 + l1 + l2 + l3 + l4 + l5 = p ∧ znum D f = (zn6 l0 l1 l2 l3 l4 l5 : Int) := by
  obtain ⟨h1, h2⟩ := h
  have g0 := h1 0 (by omega); have g1 := h1 1 (by omega); have g2 := h1 2 (by omega); have g3 := h1 3 (by omega); have g4 := h1 4 (by omega); have g5 := h1 5 (by omega)
  simp only [zsum] at h2
  refine ⟨(D 5 0 - f 0).toNat, (D 5 1 - f 1).toNat, (D 5 2 - f 2).toNat, (D 5 3 - f 3).toNat, (D 5 4 - f 4).toNat, (D 5 5 - f 5).toNat, ⟨by omega, by omega, by omega, by omega, by omega, by omega⟩, by omega, ?_⟩
  unfold znum zn6 zcht
  simp only [zsum]
  rw [show (0 + (D 5 0 - f 0)).toNat * 7 + 0 * 7 + 0 + 1 = (D 5 0 - f 0).toNat * 7 + 1 by omega,
    show (0 + (D 5 0 - f 0) + (D 5 1 - f 1)).toNat * 7 + 1 * 7 + 1 + 1 = ((D 5 0 - f 0).toNat + (D 5 1 - f 1).toNat + 1) * 7 + 2 by omega,
    show (0 + (D 5 0 - f 0) + (D 5 1 - f 1) + (D 5 2 - f 2)).toNat * 7 + 2 * 7 + 2 + 1 = ((D 5 0 - f 0).toNat + (D 5 1 - f 1).toNat + (D 5 2 - f 2).toNat + 2) * 7 + 3 by omega,
    show (0 + (D 5 0 - f 0) + (D 5 1 - f 1) + (D 5 2 - f 2) + (D 5 3 - f 3)).toNat * 7 + 3 * 7 + 3 + 1 = ((D 5 0 - f 0).toNat + (D 5 1 - f 1).toNat + (D 5 2 - f 2).toNat + (D 5 3 - f 3).toNat + 3) * 7 + 4 by omega,
    show (0 + (D 5 0 - f 0) + (D 5 1 - f 1) + (D 5 2 - f 2) + (D 5 3 - f 3) + (D 5 4 - f 4)).toNat * 7 + 4 * 7 + 4 + 1 = ((D 5 0 - f 0).toNat + (D 5 1 - f 1).toNat + (D 5 2 - f 2).toNat + (D 5 3 - f 3).toNat + (D 5 4 - f 4).toNat + 4) * 7 + 5 by omega,
    show (0 + (D 5 0 - f 0) + (D 5 1 - f 1) + (D 5 2 - f 2) + (D 5 3 - f 3) + (D 5 4 - f 4) + (D 5 5 - f 5)).toNat * 7 + 5 * 7 + 5 + 1 = ((D 5 0 - f 0).toNat + (D 5 1 - f 1).toNat + (D 5 2 - f 2).toNat + (D 5 3 - f 3).toNat + (D 5 4 - f 4).toNat + (D 5 5 - f 5).toNat + 5) * 7 + 6 by omega]
  simp only [Int.natCast_add]
  omega
theorem znum_b {D : zBk} {p : Nat} {f : Nat → Int} (h : zfit D p f) (hp : p < 6) : 0 ≤ znum D f ∧ znum D f < 462 := by
  obtain ⟨l0, l1, l2, l3, l4, l5, h1, h2, h3⟩ := znum_6 h hp
  have := (zn6_ok l0 (by omega) l1 (by omega) l2 (by omega) l3 (by omega) l4 (by omega) l5 (by omega)).1
  omega
theorem znum_inj {D : zBk} {p p2 : Nat} {f f2 : Nat → Int} (h : zfit D p f) (hp : p < 6) (h' : zfit D p2 f2) (hp' : p2 < 6) (he : (znum D f).toNat = (znum D f2).toNat) : p = p2 ∧ ∀ x, x < 6 → f x = f2 x := by
  obtain ⟨l0, l1, l2, l3, l4, l5, h1, h2, h3⟩ := znum_6 h hp
  obtain ⟨m0, m1, m2, m3, m4, m5, k1, k2, k3⟩ := znum_6 h' hp'
  have a1 := zn6_ok l0 (by omega) l1 (by omega) l2 (by omega) l3 (by omega) l4 (by omega) l5 (by omega)
  have a2 := zn6_ok m0 (by omega) m1 (by omega) m2 (by omega) m3 (by omega) m4 (by omega) m5 (by omega)
  rw [h3, k3, Int.toNat_natCast, Int.toNat_natCast] at he
  have a3 := a1.2
  rw [he, a2.2] at a3
  unfold zcode at a3
  have e0 : l0 = m0 := by omega
  have e1 : l1 = m1 := by omega
  have e2 : l2 = m2 := by omega
  have e3 : l3 = m3 := by omega
  have e4 : l4 = m4 := by omega
  have e5 : l5 = m5 := by omega
  refine ⟨by omega, fun x hx => ?_⟩
  have : x = 0 ∨ x = 1 ∨ x = 2 ∨ x = 3 ∨ x = 4 ∨ x = 5 := by omega
  rcases this with rfl | rfl | rfl | rfl | rfl | rfl <;> omega
/-- what is noted is right -/
def zmm (D : zBk) (l : Nat → Int) : Prop := ∀ p f, p < zN D → zfit D p f → l (znum D f).toNat = -1 ∨ l (znum D f).toNat = zlf D (zN D - p) p f
theorem zmm_put {D : zBk} {l : Nat → Int} {p : Nat} {f : Nat → Int} (h : zmm D l) (hN : zN D ≤ 6) (hp : p < zN D) (hf : zfit D p f) : zmm D (fun j => if j = (znum D f).toNat then zlf D (zN D - p) p f else l j) := by
  intro p2 f2 hp2 hf2
  show (if (znum D f2).toNat = (znum D f).toNat then zlf D (zN D - p) p f else l (znum D f2).toNat) = -1 ∨ (if (znum D f2).toNat = (znum D f).toNat then zlf D (zN D - p) p f else l (znum D f2).toNat) = zlf D (zN D - p2) p2 f2
  by_cases e : (znum D f2).toNat = (znum D f).toNat
  · rw [if_pos e]
    obtain ⟨e1, e2⟩ := znum_inj hf2 (by omega) hf (by omega) e
    subst e1
    exact Or.inr (zlf_congr _ _ _ _ (fun x hx => (e2 x hx).symm))
  · rw [if_neg e]
    exact h p2 f2 hp2 hf2
/-! long words -/
set_option maxRecDepth 100000 in
theorem zlb_a : ∀ m : Nat, m < 7 → Int64.ofInt ((m : Nat) : Int) <<< ((Int32.ofInt 36).toInt64 &&& 63) = Int64.ofInt (((m : Nat) : Int) * 68719476736) := by decide +kernel
set_option maxRecDepth 100000 in
theorem zlb_b : ∀ p : Nat, p < 6 → ∀ ch : Nat, ch < 64 → Int64.ofInt (ch : Int) <<< ((Int32.ofInt ((6 * (5 - p) : Nat) : Int)).toInt64 &&& 63) = Int64.ofInt ((ch : Int) * ((2 ^ (6 * (5 - p)) : Nat) : Int)) := by decide +kernel
set_option maxRecDepth 100000 in
theorem zlb_c : ∀ p : Nat, p < 6 → ∀ ch : Nat, ch < 64 → Int64.ofInt (zpc ch * 68719476736) ||| Int64.ofInt ((ch : Int) * ((2 ^ (6 * (5 - p)) : Nat) : Int)) = Int64.ofInt (zown p ch) := by decide +kernel
set_option maxRecDepth 100000 in
theorem zlb_d : ∀ p : Nat, p < 6 → ∀ ch : Nat, ch < 64 → zown p ch < 824633720832 := by decide +kernel
theorem zlc_ge {a b : Int} : 0 ≤ (if b < a then (1 : Int) else if a = b then 0 else -1) ↔ b ≤ a := by
  split
  · omega
  · split <;> omega
theorem zlc_0 {a b : Int} : (if b < a then (1 : Int) else if a = b then 0 else -1) = 0 ↔ a = b := by
  split
  · omega
  · split <;> omega
theorem zlc_r {a b : Int} : zr (if b < a then (1 : Int) else if a = b then 0 else -1) := by
  split
  · exact ⟨by omega, by omega⟩
  · split <;> exact ⟨by omega, by omega⟩
theorem zmod64 (n : Nat) : Int32.ofInt (n : Int) &&& Int32.ofInt 63 = Int32.ofInt ((n % 64 : Nat) : Int) := by
  apply Int32.toBitVec_inj.mp
  rw [Int32.toBitVec_and]
  apply BitVec.eq_of_toNat_eq
  rw [BitVec.toNat_and]
  have h1 : ∀ m : Nat, (Int32.ofInt (m : Int)).toBitVec.toNat = m % 4294967296 := by
    intro m
    show (BitVec.ofInt 32 (m : Int)).toNat = m % 4294967296
    simp
  rw [h1, h1, show (Int32.ofInt 63).toBitVec.toNat = 2 ^ 6 - 1 by decide, Nat.and_two_pow_sub_one_eq_mod]
  omega
theorem zshr {a : Nat} (ha : a < 9223372036854775808) {k : Nat} (hk : k < 64) (he : (((Int32.ofInt (k : Int)).toInt64 &&& 63).toBitVec.smod 64).toNat = k) : Int64.ofInt (a : Int) >>> ((Int32.ofInt (k : Int)).toInt64 &&& 63) = Int64.ofInt ((a / 2 ^ k : Nat) : Int) := by
  apply Int64.toBitVec_inj.mp
  rw [Int64.toBitVec_shiftRight]
  apply BitVec.eq_of_toInt_eq
  have hb : ∀ m : Nat, m < 9223372036854775808 → (Int64.ofInt (m : Int)).toBitVec.toInt = m := by
    intro m hm
    show (BitVec.ofInt 64 (m : Int)).toInt = m
    rw [BitVec.toInt_ofInt]
    apply Int.bmod_eq_of_le <;> omega
  have hd : a / 2 ^ k ≤ a := Nat.div_le_self _ _
  rw [hb _ (by omega), BitVec.sshiftRight', BitVec.toInt_sshiftRight, hb _ ha, he, Int.shiftRight_eq_div_pow]
  first | exact (Int.natCast_ediv a (2 ^ k)).symm | (rw [Int.natCast_ediv, Int.natCast_pow]; rfl)
theorem zshk : ∀ k : Nat, k < 64 → (((Int32.ofInt (k : Int)).toInt64 &&& 63).toBitVec.smod 64).toNat = k := by decide +kernel
