/-! the model: changes -/
theorem zpig : ∀ (N m : Nat) (g : Nat → Nat), (∀ k, k < m → g k < N) → (∀ j k, j < k → k < m → g j ≠ g k) → m ≤ N
  | 0, m, g, h, _ => by
    rcases Nat.eq_zero_or_pos m with h0 | h0
    · omega
    · have := h 0 h0
      omega
  | N + 1, m, g, h, hi => by
    by_cases hx : ∃ k, k < m ∧ g k = N
    · obtain ⟨k0, h1, h2⟩ := hx
      have h3 := zpig N (m - 1) (fun k => if k < k0 then g k else g (k + 1)) (fun k hk => ?_) (fun j k hjk hk => ?_)
      · omega
      · show (if k < k0 then g k else g (k + 1)) < N
        by_cases e : k < k0
        · rw [if_pos e]
          have := h k (by omega)
          have := hi k k0 e h1
          omega
        · rw [if_neg e]
          have := h (k + 1) (by omega)
          have := hi k0 (k + 1) (by omega) (by omega)
          omega
      · show (if j < k0 then g j else g (j + 1)) ≠ (if k < k0 then g k else g (k + 1))
        by_cases e : k < k0
        · rw [if_pos e, if_pos (by omega)]; exact hi j k hjk (by omega)
        · rw [if_neg e]
          by_cases e2 : j < k0
          · rw [if_pos e2]; exact hi j (k + 1) (by omega) (by omega)
          · rw [if_neg e2]; exact hi (j + 1) (k + 1) (by omega) (by omega)
    · have h3 := zpig N m g (fun k hk => by
        have := h k hk
        have h4 : g k ≠ N := fun z => hx ⟨k, hk, z⟩
        omega) hi
      omega
def znk5 (l0 l1 l2 l3 l4 : Nat) : Nat := zchL.getD (l0 * 7 + 1) 0 + zchL.getD ((l0 + l1 + 1) * 7 + 2) 0 + zchL.getD ((l0 + l1 + l2 + 2) * 7 + 3) 0 + zchL.getD ((l0 + l1 + l2 + l3 + 3) * 7 + 4) 0 + zchL.getD ((l0 + l1 + l2 + l3 + l4 + 4) * 7 + 5) 0
def znkL : List Nat := [0, 2401, 343, 49, 7, 1, 4802, 2744, 2450, 2408, 2402, 686, 392, 350, 344, 98, 56, 50, 14, 8, 2, 7203, 5145, 4851, 4809, 4803, 3087, 2793, 2751, 2745, 2499, 2457, 2451, 2415, 2409, 2403, 1029, 735, 693, 687, 441, 399, 393, 357, 351, 345, 147, 105, 99, 63, 57, 51, 21, 15, 9, 3, 9604, 7546, 7252, 7210, 7204, 5488, 5194, 5152, 5146, 4900, 4858, 4852, 4816, 4810, 4804, 3430, 3136, 3094, 3088, 2842, 2800, 2794, 2758, 2752, 2746, 2548, 2506, 2500, 2464, 2458, 2452, 2422, 2416, 2410, 2404, 1372, 1078, 1036, 1030, 784, 742, 736, 700, 694, 688, 490, 448, 442, 406, 400, 394, 364, 358, 352, 346, 196, 154, 148, 112, 106, 100, 70, 64, 58, 52, 28, 22, 16, 10, 4, 12005, 9947, 9653, 9611, 9605, 7889, 7595, 7553, 7547, 7301, 7259, 7253, 7217, 7211, 7205, 5831, 5537, 5495, 5489, 5243, 5201, 5195, 5159, 5153, 5147, 4949, 4907, 4901, 4865, 4859, 4853, 4823, 4817, 4811, 4805, 3773, 3479, 3437, 3431, 3185, 3143, 3137, 3101, 3095, 3089, 2891, 2849, 2843, 2807, 2801, 2795, 2765, 2759, 2753, 2747, 2597, 2555, 2549, 2513, 2507, 2501, 2471, 2465, 2459, 2453, 2429, 2423, 2417, 2411, 2405, 1715, 1421, 1379, 1373, 1127, 1085, 1079, 1043, 1037, 1031, 833, 791, 785, 749, 743, 737, 707, 701, 695, 689, 539, 497, 491, 455, 449, 443, 413, 407, 401, 395, 371, 365, 359, 353, 347, 245, 203, 197, 161, 155, 149, 119, 113, 107, 101, 77, 71, 65, 59, 53, 35, 29, 23, 17, 11, 5, 14406, 12348, 12054, 12012, 12006, 10290, 9996, 9954, 9948, 9702, 9660, 9654, 9618, 9612, 9606, 8232, 7938, 7896, 7890, 7644, 7602, 7596, 7560, 7554, 7548, 7350, 7308, 7302, 7266, 7260, 7254, 7224, 7218, 7212, 7206, 6174, 5880, 5838, 5832, 5586, 5544, 5538, 5502, 5496, 5490, 5292, 5250, 5244, 5208, 5202, 5196, 5166, 5160, 5154, 5148, 4998, 4956, 4950, 4914, 4908, 4902, 4872, 4866, 4860, 4854, 4830, 4824, 4818, 4812, 4806, 4116, 3822, 3780, 3774, 3528, 3486, 3480, 3444, 3438, 3432, 3234, 3192, 3186, 3150, 3144, 3138, 3108, 3102, 3096, 3090, 2940, 2898, 2892, 2856, 2850, 2844, 2814, 2808, 2802, 2796, 2772, 2766, 2760, 2754, 2748, 2646, 2604, 2598, 2562, 2556, 2550, 2520, 2514, 2508, 2502, 2478, 2472, 2466, 2460, 2454, 2436, 2430, 2424, 2418, 2412, 2406, 2058, 1764, 1722, 1716, 1470, 1428, 1422, 1386, 1380, 1374, 1176, 1134, 1128, 1092, 1086, 1080, 1050, 1044, 1038, 1032, 882, 840, 834, 798, 792, 786, 756, 750, 744, 738, 714, 708, 702, 696, 690, 588, 546, 540, 504, 498, 492, 462, 456, 450, 444, 420, 414, 408, 402, 396, 378, 372, 366, 360, 354, 348, 294, 252, 246, 210, 204, 198, 168, 162, 156, 150, 126, 120, 114, 108, 102, 84, 78, 72, 66, 60, 54, 42, 36, 30, 24, 18, 12, 6]
def znk_t (l0 l1 l2 l3 l4 : Nat) : Bool := Nat.blt (znk5 l0 l1 l2 l3 l4) 462 && Nat.beq (znkL.getD (znk5 l0 l1 l2 l3 l4) 0) (l0 + 7 * l1 + 49 * l2 + 343 * l3 + 2401 * l4)
set_option maxRecDepth 100000 in
theorem znk_all : ((List.range 7).all fun l0 => (List.range (7 - l0)).all fun l1 => (List.range (7 - l0 - l1)).all fun l2 => (List.range (7 - l0 - l1 - l2)).all fun l3 => (List.range (7 - l0 - l1 - l2 - l3)).all fun l4 => znk_t l0 l1 l2 l3 l4) = true := by decide +kernel
theorem znk_ok (l0 l1 l2 l3 l4 : Nat) (h : l0 + l1 + l2 + l3 + l4 ≤ 6) : znk5 l0 l1 l2 l3 l4 < 462 ∧ znkL.getD (znk5 l0 l1 l2 l3 l4) 0 = l0 + 7 * l1 + 49 * l2 + 343 * l3 + 2401 * l4 := by
  have g0 := List.all_eq_true.mp znk_all l0 (List.mem_range.mpr (by omega))
  have g1 := List.all_eq_true.mp g0 l1 (List.mem_range.mpr (by omega))
  have g2 := List.all_eq_true.mp g1 l2 (List.mem_range.mpr (by omega))
  have g3 := List.all_eq_true.mp g2 l3 (List.mem_range.mpr (by omega))
  have g4 := List.all_eq_true.mp g3 l4 (List.mem_range.mpr (by omega))
  unfold znk_t at g4
  rw [Bool.and_eq_true] at g4
  exact ⟨Nat.le_of_ble_eq_true g4.1, Nat.eq_of_beq_eq_true g4.2⟩
def zkn (c : Nat) : Nat := znk5 (zkdg c 0) (zkdg c 1) (zkdg c 2) (zkdg c 3) (zkdg c 4)
theorem zkn_inj {D : zBk} {p c c2 : Nat} (hp : p ≤ 6) (h : zkv D p c) (h2 : zkv D p c2) (he : zkn c = zkn c2) : c = c2 := by
  have s1 := h.2.2
  have s2 := h2.2.2
  have a1 := (znk_ok (zkdg c 0) (zkdg c 1) (zkdg c 2) (zkdg c 3) (zkdg c 4) (by omega)).2
  have a2 := (znk_ok (zkdg c2 0) (zkdg c2 1) (zkdg c2 2) (zkdg c2 3) (zkdg c2 4) (by omega)).2
  unfold zkn at he
  rw [he, a2] at a1
  have e1 := zk_sum h.1
  have e2 := zk_sum h2.1
  have l0 := zk_lt c 0; have l1 := zk_lt c 1; have l2 := zk_lt c 2; have l3 := zk_lt c 3; have l4 := zk_lt c 4; have l5 := zk_lt c 5
  have m0 := zk_lt c2 0; have m1 := zk_lt c2 1; have m2 := zk_lt c2 2; have m3 := zk_lt c2 3; have m4 := zk_lt c2 4; have m5 := zk_lt c2 5
  omega
/-! the rows of codes -/
def zBr (D : zBk) (μ : zMem) (p : Nat) : Prop := 0 ≤ μ 142 p ∧ (∀ k, k < (μ 142 p).toNat → ∃ c : Nat, μ 141 (600 * p + k) = (c : Int) ∧ zkv D p c) ∧ ∀ j k, j < k → k < (μ 142 p).toNat → μ 141 (600 * p + j) ≠ μ 141 (600 * p + k)
theorem zBr_le {D : zBk} {μ : zMem} {p : Nat} (h : zBr D μ p) (hp : p ≤ 6) : (μ 142 p).toNat ≤ 462 := by
  refine zpig 462 _ (fun k => zkn (μ 141 (600 * p + k)).toNat) (fun k hk => ?_) (fun j k hjk hk => ?_)
  · obtain ⟨c, h1, h2⟩ := h.2.1 k hk
    show zkn (μ 141 (600 * p + k)).toNat < 462
    rw [h1, Int.toNat_natCast]
    have := h2.2.2
    exact (znk_ok _ _ _ _ _ (by omega)).1
  · obtain ⟨c, h1, h2⟩ := h.2.1 k hk
    obtain ⟨c3, h3, h4⟩ := h.2.1 j (by omega)
    show zkn (μ 141 (600 * p + j)).toNat ≠ zkn (μ 141 (600 * p + k)).toNat
    have hne := h.2.2 j k hjk hk
    rw [h1, h3] at hne
    rw [h1, h3, Int.toNat_natCast, Int.toNat_natCast]
    intro z
    exact hne (by rw [zkn_inj hp h4 h2 z])
theorem zBr_r {D : zBk} {μ : zMem} {p : Nat} (h : zBr D μ p) : ∀ k, k < (μ 142 p).toNat → zr (μ 141 (600 * p + k)) := fun k hk => by
  obtain ⟨c, h1, h2⟩ := h.2.1 k hk
  have := h2.1
  rw [h1]
  exact ⟨by omega, by omega⟩
def zIn (μ : zMem) (p c : Nat) : Prop := ∃ k, k < (μ 142 p).toNat ∧ μ 141 (600 * p + k) = (c : Int)
def zCl (D : zBk) (μ : zMem) (p c ch : Nat) : Prop := zcan D p ch (zkfc D c) → zIn μ (p + 1) (c + zkpw (zbx D (zord D p) ch).toNat)
def zFB (D : zBk) (μ μ1 : zMem) (p : Nat) : Prop := zScr μ μ1 ∧ (∀ q, q ≤ p → zBr D μ1 q) ∧ (∀ q, q < p → ∀ k, k < (μ1 142 q).toNat → ∀ c : Nat, μ1 141 (600 * q + k) = (c : Int) → ∀ ch, ch < 64 → zCl D μ1 q c ch) ∧ μ1 142 0 = 1 ∧ μ1 141 0 = 0
theorem zBr.mv {D : zBk} {μ μ2 : zMem} {p : Nat} (h : zBr D μ p) (h1 : μ2 141 = μ 141) (h2 : μ2 142 = μ 142) : zBr D μ2 p := by
  unfold zBr at h ⊢
  rw [h1, h2]
  exact h
theorem zCl.mv {D : zBk} {μ μ2 : zMem} {p c ch : Nat} (h : zCl D μ p c ch) (h1 : μ2 141 = μ 141) (h2 : μ2 142 = μ 142) : zCl D μ2 p c ch := by
  unfold zCl zIn at h ⊢
  rw [h1, h2]
  exact h
theorem zBr.loc {D : zBk} {μ μ2 : zMem} {p : Nat} (h : zBr D μ p) (hp : p ≤ 6) (h1 : ∀ k, k < 600 → μ2 141 (600 * p + k) = μ 141 (600 * p + k)) (h2 : μ2 142 p = μ 142 p) : zBr D μ2 p := by
  have hl := zBr_le h hp
  obtain ⟨a, b, c⟩ := h
  refine ⟨by rw [h2]; exact a, fun k hk => ?_, fun j k hjk hk => ?_⟩
  · rw [h2] at hk
    rw [h1 k (by omega)]
    exact b k hk
  · rw [h2] at hk
    rw [h1 k (by omega), h1 j (by omega)]
    exact c j k hjk hk
theorem zFB.loc {D : zBk} {μ μ1 μ2 : zMem} {p : Nat} (h : zFB D μ μ1 p) (hs : zScr μ μ2) (hp : p ≤ 6) (h1 : ∀ j, j < 600 * (p + 1) → μ2 141 j = μ1 141 j) (h2 : ∀ q, q ≤ p → μ2 142 q = μ1 142 q) : zFB D μ μ2 p := by
  obtain ⟨-, hb, hc, hd, he⟩ := h
  refine ⟨hs, fun q hq => (hb q hq).loc (by omega) (fun k hk => h1 _ (by omega)) (h2 q hq), fun q hq k hk c hck ch hch hz => ?_, (h2 0 (by omega)).trans hd, (h1 0 (by omega)).trans he⟩
  have hl := zBr_le (hb q (by omega)) (by omega)
  rw [h2 q (by omega)] at hk
  rw [h1 _ (by omega)] at hck
  obtain ⟨k2, g1, g2⟩ := hc q hq k hk c hck ch hch hz
  have hl2 := zBr_le (hb (q + 1) (by omega)) (by omega)
  exact ⟨k2, by rw [h2 (q + 1) (by omega)]; exact g1, by rw [h1 _ (by omega)]; exact g2⟩
theorem zkv_0 {D : zBk} (hW : zWF D) : zkv D 0 0 := by
  have h : ∀ x, x < 6 → zkdg 0 x = 0 := by decide
  refine ⟨by decide, fun x hx => ?_, by decide⟩
  have := hW.2.1 x hx
  rw [h x hx]
  omega
theorem zFB_0 {D : zBk} {μ : zMem} (hW : zWF D) : zFB D μ (zwr (zwr μ 142 0 1) 141 0 0) 0 := by
  have e1 : zwr (zwr μ 142 0 1) 141 0 0 142 0 = 1 := by rw [zwr_ne (by decide), zwr_at]
  have e2 : zwr (zwr μ 142 0 1) 141 0 0 141 0 = 0 := zwr_at
  refine ⟨(zScr.rfl'.wr (by decide) (by decide)).wr (by decide) (by decide), fun q hq => ?_, fun q hq => by omega, e1, e2⟩
  have : q = 0 := by omega
  subst this
  refine ⟨by rw [e1]; decide, fun k hk => ?_, fun j k hjk hk => ?_⟩
  · rw [e1] at hk
    have : k = 0 := by omega
    subst this
    exact ⟨0, e2, zkv_0 hW⟩
  · rw [e1] at hk
    omega
theorem zBr_z {D : zBk} {μ : zMem} {p : Nat} : zBr D (zwr μ 142 p 0) p := by
  have e : zwr μ 142 p 0 142 p = 0 := zwr_at
  refine ⟨by rw [e]; decide, fun k hk => ?_, fun j k hjk hk => ?_⟩
  · rw [e] at hk; omega
  · rw [e] at hk; omega
/-- under way at place i, code k, ways below cq -/
def zFC (D : zBk) (μ μ3 : zMem) (i mi k cq c : Nat) : Prop := zFB D μ μ3 i ∧ zBr D μ3 (i + 1) ∧ μ3 142 i = (mi : Int) ∧ (∀ k', k' < k → ∀ c' : Nat, μ3 141 (600 * i + k') = (c' : Int) → ∀ ch, ch < 64 → zCl D μ3 i c' ch) ∧ μ3 141 (600 * i + k) = (c : Int) ∧ ∀ ch, ch < cq → zCl D μ3 i c ch
theorem zFC.mv {D : zBk} {μ μ3 μ4 : zMem} {i mi k cq c : Nat} (h : zFC D μ μ3 i mi k cq c) (hs : zScr μ μ4) (h1 : μ4 141 = μ3 141) (h2 : μ4 142 = μ3 142) (hi : i ≤ 6) : zFC D μ μ4 i mi k cq c := by
  obtain ⟨a, b, c1, d, e, f⟩ := h
  exact ⟨a.loc hs hi (fun j _ => by rw [h1]) (fun q _ => by rw [h2]), b.mv h1 h2, by rw [h2]; exact c1, fun k' hk c' hc ch hch => (d k' hk c' (by rw [h1] at hc; exact hc) ch hch).mv h1 h2, by rw [h1]; exact e, fun ch hch => (f ch hch).mv h1 h2⟩
theorem zFC.next {D : zBk} {μ μ3 : zMem} {i mi k cq c : Nat} (h : zFC D μ μ3 i mi k cq c) (hc : zCl D μ3 i c cq) : zFC D μ μ3 i mi k (cq + 1) c := by
  obtain ⟨a, b, c1, d, e, f⟩ := h
  refine ⟨a, b, c1, d, e, fun ch hch => ?_⟩
  by_cases e2 : ch = cq
  · subst e2; exact hc
  · exact f ch (by omega)
theorem zFC.app {D : zBk} {μ μ3 : zMem} {i mi k cq c c2 mq : Nat} (h : zFC D μ μ3 i mi k cq c) (hi : i ≤ 5) (hmq : μ3 142 (i + 1) = (mq : Int)) (hk : k < mi) (hv : zkv D (i + 1) c2) (hn : ¬ zIn μ3 (i + 1) c2) (he : c2 = c + zkpw (zbx D (zord D i) cq).toNat) :
    zFC D μ (zwr (zwr μ3 141 (600 * (i + 1) + mq) (c2 : Int)) 142 (i + 1) ((mq : Int) + 1)) i mi k (cq + 1) c := by
  obtain ⟨a, b, c1, d, e, f⟩ := h
  obtain ⟨μ4, hm4⟩ : ∃ μ4 : zMem, μ4 = zwr (zwr μ3 141 (600 * (i + 1) + mq) (c2 : Int)) 142 (i + 1) ((mq : Int) + 1) := ⟨_, rfl⟩
  rw [← hm4]
  have hml := zBr_le b (by omega)
  rw [hmq, Int.toNat_natCast] at hml
  have hs : zScr μ μ4 := by rw [hm4]; exact (a.1.wr (by decide) (by decide)).wr (by decide) (by decide)
  have g1 : ∀ j, j ≠ 600 * (i + 1) + mq → μ4 141 j = μ3 141 j := fun j hj => by rw [hm4, zwr_ne (by decide), zwr_nk (by omega)]
  have g2 : μ4 141 (600 * (i + 1) + mq) = (c2 : Int) := by rw [hm4, zwr_ne (by decide), zwr_at]
  have g3 : ∀ q, q ≠ i + 1 → μ4 142 q = μ3 142 q := fun q hq => by rw [hm4, zwr_nk (by omega), zwr_ne (by decide)]
  have g4 : μ4 142 (i + 1) = (mq : Int) + 1 := by rw [hm4, zwr_at]
  have g5 : (μ4 142 (i + 1)).toNat = mq + 1 := by rw [g4]; omega
  have g6 : (μ3 142 (i + 1)).toNat = mq := by rw [hmq]; omega
  have hin : ∀ c', zIn μ3 (i + 1) c' → zIn μ4 (i + 1) c' := fun c' z => by
    obtain ⟨k2, z1, z2⟩ := z
    rw [g6] at z1
    exact ⟨k2, by omega, by rw [g1 _ (by omega)]; exact z2⟩
  have hcl : ∀ c' ch, zCl D μ3 i c' ch → zCl D μ4 i c' ch := fun c' ch z hz => hin _ (z hz)
  have hml2 := zBr_le (a.2.1 i (Nat.le_refl _)) (by omega)
  rw [c1, Int.toNat_natCast] at hml2
  refine ⟨a.loc hs (by omega) (fun j hj => g1 j (by omega)) (fun q hq => g3 q (by omega)), ⟨by omega, fun k2 hk2 => ?_, fun j k2 hjk hk2 => ?_⟩, (g3 i (by omega)).trans c1, fun k' hk' c' hc' ch hch => ?_, (g1 _ (by omega)).trans e, fun ch hch => ?_⟩
  · rw [g5] at hk2
    by_cases e2 : k2 = mq
    · subst e2; exact ⟨c2, g2, hv⟩
    · obtain ⟨c', z1, z2⟩ := b.2.1 k2 (by omega)
      exact ⟨c', (g1 _ (by omega)).trans z1, z2⟩
  · rw [g5] at hk2
    by_cases e2 : k2 = mq
    · subst e2
      rw [g2, g1 _ (by omega)]
      intro z
      exact hn ⟨j, by omega, z⟩
    · rw [g1 _ (by omega), g1 _ (by omega)]
      exact b.2.2 j k2 hjk (by omega)
  · rw [g1 _ (by omega)] at hc'
    exact hcl c' ch (d k' hk' c' hc' ch hch)
  · by_cases e2 : ch = cq
    · subst e2
      intro _
      rw [← he]
      exact ⟨mq, by omega, g2⟩
    · exact hcl c ch (f ch (by omega))
/-- from place t on the fewest are told -/
def zFG (D : zBk) (μ μ1 : zMem) (t : Nat) : Prop := zFB D μ μ1 (zN D) ∧ ∀ q, t ≤ q → q ≤ zN D → ∀ k, k < (μ1 142 q).toNat → ∀ c : Nat, μ1 141 (600 * q + k) = (c : Int) → μ1 143 (600 * q + k) = zfw D (zN D - q) q (zkfc D c)
theorem zFG.mv {D : zBk} {μ μ1 μ2 : zMem} {t : Nat} (h : zFG D μ μ1 t) (hn : zN D ≤ 6) (hs : zScr μ μ2) (h1 : μ2 141 = μ1 141) (h2 : μ2 142 = μ1 142) (h3 : μ2 143 = μ1 143) : zFG D μ μ2 t :=
  ⟨h.1.loc hs hn (fun j _ => by rw [h1]) (fun q _ => by rw [h2]), fun q a b k hk c hc => by rw [h1] at hc; rw [h2] at hk; rw [h3]; exact h.2 q a b k hk c hc⟩
theorem zin_of {μ : zMem} {p : Nat} {c : Int} : (zfst (fun k => decide (μ 141 (600 * p + k) = c)) 0 (μ 142 p).toNat = -6 ∧ ∀ k, k < (μ 142 p).toNat → μ 141 (600 * p + k) ≠ c) ∨ ∃ k : Nat, zfst (fun k => decide (μ 141 (600 * p + k) = c)) 0 (μ 142 p).toNat = (k : Int) ∧ k < (μ 142 p).toNat ∧ μ 141 (600 * p + k) = c := by
  rcases zfst_b (fun k => decide (μ 141 (600 * p + k) = c)) (μ 142 p).toNat 0 with h | ⟨h1, h2, h3, h4⟩
  · refine Or.inl ⟨h, fun k hk => ?_⟩
    have := zfst_none _ _ 0 h k (by omega) (by omega)
    rw [decide_eq_true_eq] at this
    exact this
  · refine Or.inr ⟨(zfst (fun k => decide (μ 141 (600 * p + k) = c)) 0 (μ 142 p).toNat).toNat, by omega, by omega, ?_⟩
    exact of_decide_eq_true h3
theorem zdiv7 {n : Nat} (h : n < 2147483648) : Int32.ofInt (n : Int) / Int32.ofInt 7 = Int32.ofInt ((n / 7 : Nat) : Int) := by
  have hz : zr (n : Int) := ⟨by omega, by omega⟩
  rw [← Int32.ofInt_tdiv (a := (n : Int)) (b := 7) hz.1 hz.2 (by decide) (by decide)]
  rfl
theorem zrem7 {n : Nat} (h : n < 2147483648) : Int32.ofInt (n : Int) - Int32.ofInt (n : Int) / Int32.ofInt 7 * Int32.ofInt 7 = Int32.ofInt ((n % 7 : Nat) : Int) := by
  rw [zdiv7 h, ← Int32.ofInt_mul, ← Int32.ofInt_sub]
  congr 1
  omega
theorem zkq_lt {c : Nat} (h : c < 117649) : ∀ x, zkq c x < 117649
  | 0 => h
  | x + 1 => by
    have := zkq_lt h x
    simp only [zkq]
    omega
theorem zkpw_b : ∀ b, b < 6 → zkpw b ≤ 16807 := by decide
/-- at which places a word may be another one -/
def zmay (D : zBk) (s : Nat) : Nat → Nat
  | 0 => 0
  | i + 1 => if 0 ≤ D 2 (D 3 (6 * s + i)).toNat then zmay D s i ||| 2 ^ i else zmay D s i
theorem zmay_lt (D : zBk) (s : Nat) : ∀ k, k ≤ 6 → zmay D s k < 2 ^ k
  | 0, _ => by simp [zmay]
  | k + 1, h => by
    have h1 := zmay_lt D s k (by omega)
    have h2 : 2 ^ (k + 1) = 2 * 2 ^ k := by rw [Nat.pow_succ]; omega
    simp only [zmay]
    split
    · rw [zb_add k (by omega) _ h1]
      omega
    · omega
theorem zmay_64 (D : zBk) (s : Nat) {k : Nat} (h : k ≤ 6) : zmay D s k < 64 := Nat.lt_of_lt_of_le (zmay_lt D s k h) (Nat.pow_le_pow_right (by omega) h)
theorem zmay_bit {D : zBk} {s j : Nat} (hj : j < 6) : ∀ k, k ≤ 6 → ((zmay D s k).testBit j = true ↔ j < k ∧ 0 ≤ D 2 (D 3 (6 * s + j)).toNat)
  | 0, _ => by simp [zmay]
  | k + 1, h => by
    have ih := zmay_bit (D := D) (s := s) hj k (by omega)
    have hl := zmay_64 D s (show k ≤ 6 by omega)
    simp only [zmay]
    split
    next hc =>
      rw [zb_orj _ hl k (by omega) j hj, Bool.or_eq_true, decide_eq_true_eq, ih]
      constructor
      · rintro (⟨h1, h2⟩ | h1)
        · exact ⟨by omega, h2⟩
        · subst h1; exact ⟨by omega, hc⟩
      · rintro ⟨h1, h2⟩
        by_cases e : j = k
        · exact Or.inr e
        · exact Or.inl ⟨by omega, h2⟩
    next hc =>
      rw [ih]
      constructor
      · rintro ⟨h1, h2⟩; exact ⟨by omega, h2⟩
      · rintro ⟨h1, h2⟩
        refine ⟨?_, h2⟩
        by_cases e : j = k
        · subst e; exact absurd h2 hc
        · omega
theorem zb_sbi : ∀ a : Nat, a < 64 → ∀ b : Nat, b < 64 → (a - (a &&& b) = 0 ↔ ∀ i, i < 6 → a.testBit i = true → b.testBit i = true) := by decide +kernel
theorem zb_pow : ∀ a : Nat, a < 64 → ∀ z : Nat, z < 7 → (a < 2 ^ z ↔ ∀ i, i < 6 → z ≤ i → a.testBit i = false) := by decide +kernel
theorem zokc_iff {D : zBk} {s ch : Nat} (hW : zWF D) (hs : s < 6) (hc : ch < 64) : ch - (ch &&& zmay D s (D 4 s).toNat) = 0 ↔ zokc D s ch := by
  have hsz := hW.2.1 s hs
  rw [zb_sbi ch hc _ (zmay_64 D s (by omega))]
  unfold zokc
  rw [zb_pow ch hc _ (by omega)]
  constructor
  · intro h
    refine ⟨fun i hi hz => ?_, fun i hi hb => ?_⟩
    · cases hx : ch.testBit i with
      | false => rfl
      | true =>
        have := ((zmay_bit hi _ (by omega)).mp (h i hi hx)).1
        omega
    · exact ((zmay_bit (by omega) _ (by omega)).mp (h i (by omega) hb)).2
  · rintro ⟨h1, h2⟩ i hi hb
    refine (zmay_bit hi _ (by omega)).mpr ⟨?_, ?_⟩
    · rcases Nat.lt_or_ge i (D 4 s).toNat with z | z
      · exact z
      · rw [h1 i hi z] at hb; cases hb
    · refine h2 i ?_ hb
      rcases Nat.lt_or_ge i (D 4 s).toNat with z | z
      · exact z
      · rw [h1 i hi z] at hb; cases hb

set_option maxRecDepth 100000 in
set_option maxHeartbeats 4000000 in
theorem ct_X11_numberOf {μ : zMem} {p : Nat} (hp : p < 7) (h0 : 0 ≤ μ 142 p) (hm : (μ 142 p).toNat ≤ 600) (hr : ∀ k, k < (μ 142 p).toNat → zr (μ 141 (600 * p + k))) {c : Int} (hc : zr c) : Ci kX11_numberOf 1 150 zSX [zP 127, zI (p : Int), zI c] μ (fun r μ' => r = zfst (fun k => decide (μ 141 (600 * p + k) = c)) 0 (μ 142 p).toNat ∧ μ' = μ) := by
  refine Ct.of [some (zP 127), some (zI (p : Int)), some (zI c), none] rfl (Nat.le_of_ble_eq_true rfl) (by decide +kernel) (fun Γ ad hO hR => ?_)
  refine zY.iconst hO dX11_numberOf_0 ?_
  refine zY.istore3 (zc1_I _) hO dX11_numberOf_1 ?_
  have L2 : ∀ i : Nat, i ≤ (μ 142 p).toNat → zfst (fun k => decide (μ 141 (600 * p + k) = c)) 0 (μ 142 p).toNat = zfst (fun k => decide (μ 141 (600 * p + k) = c)) i ((μ 142 p).toNat - i) → zY Γ (150, zSX, ad, 0, 0) 2 [some (zP 127), some (zI (p : Int)), some (zI c), some (zI (i : Int))] [] μ := by
    refine zdown ((μ 142 p).toNat) (fun i hi_i ih2 => ?_)
    intro hz
    refine zY.iload_n hO dX11_numberOf_2 rfl ?_
    refine zY.aload_n hO dX11_numberOf_3 rfl ?_
    refine zY.getR zfl_X11_52 (by decide : 127 < 150) rfl rfl hO dX11_numberOf_4 ?_
    refine zY.iload_n hO dX11_numberOf_7 rfl ?_
    refine zY.iald (p) rfl (by omega) (by decide) (by decide : 142 < 150) rfl hO dX11_numberOf_8 ?_
    refine zY.as (b := (((μ 142 p).toNat : Nat) : Int)) (by omega) ?_
    refine zY.icmp_ge (tgt := 36) ⟨by omega, by omega⟩ ⟨by omega, by omega⟩ hO dX11_numberOf_9 (by decide) (fun c9 => ?_) (fun c9 => ?_)
    ·
      refine zY.bipush hO dX11_numberOf_36 (by decide) ?_
      exact zY.iret rfl ⟨_, rfl, ⟨by rw [hz, show i = (μ 142 p).toNat by omega, zfst_end], rfl⟩⟩ hR hO dX11_numberOf_38
    ·
      refine zY.aload_n hO dX11_numberOf_12 rfl ?_
      refine zY.getR zfl_X11_49 (by decide : 127 < 150) rfl rfl hO dX11_numberOf_13 ?_
      refine zY.sipush hO dX11_numberOf_16 (by decide) ?_
      refine zY.iload_n hO dX11_numberOf_19 rfl ?_
      refine zY.imul hO dX11_numberOf_20 ?_
      refine zY.iload_n hO dX11_numberOf_21 rfl ?_
      refine zY.iadd hO dX11_numberOf_22 ?_
      refine zY.iald (600 * p + i) (by omega) (by omega) (by decide) (by decide : 141 < 150) rfl hO dX11_numberOf_23 ?_
      refine zY.iload_n hO dX11_numberOf_24 rfl ?_
      refine zY.icmp_ne (tgt := 30) (hr i (by omega)) hc hO dX11_numberOf_25 (by decide) (fun c25 => ?_) (fun c25 => ?_)
      ·
        refine zY.iinc3 _ rfl (zc1_I _) hO dX11_numberOf_30 ?_
        refine zY.goto (tgt := 2) hO dX11_numberOf_33 (by decide) ?_
        exact ih2 (by omega) (by rw [hz, zfst_go (by omega) (by rw [decide_eq_true_eq]; exact c25)])
      ·
        refine zY.iload_n hO dX11_numberOf_28 rfl ?_
        exact zY.iret rfl ⟨_, rfl, ⟨by rw [hz, zfst_hit (by omega) (decide_eq_true (by omega))], rfl⟩⟩ hR hO dX11_numberOf_29
  exact L2 0 (by omega) rfl

set_option maxRecDepth 100000 in
set_option maxHeartbeats 4000000 in
theorem ct_X11_openBroken {μ : zMem} {D : zBk} {K0 K1 : Option zBk} (hM : zMd D K0 K1 μ) {p c : Nat} (hv : zkv D p c) : Cv kX11_openBroken 2 150 zSX [zP 127, zI (c : Int)] μ (fun μ' => ∃ h, μ' = zrow μ 138 h ∧ ∀ x, x < 6 → h x = zkfc D c x) := by
  refine Ct.of [some (zP 127), some (zI (c : Int)), none, none] rfl (Nat.le_of_ble_eq_true rfl) (by decide +kernel) (fun Γ ad hO hR => ?_)
  refine zY.aload_n hO dX11_openBroken_0 rfl ?_
  refine zY.callV0v (ct_X11_openCase hM) (by decide) zcal_X11_openCase zml_X11_168 (by decide : 127 < 150) rfl rfl (Nat.le_of_ble_eq_true rfl) rfl ⟨Nat.zero_le _, Nat.zero_le _⟩ hO dX11_openBroken_1 (fun μ2 hq1 => ?_)
  obtain ⟨h0q, hq1, hq2⟩ := hq1
  subst hq1
  refine zY.iload_n hO dX11_openBroken_4 rfl ?_
  refine zY.istore2 (zc1_I _) hO dX11_openBroken_5 ?_
  refine zY.iconst hO dX11_openBroken_6 ?_
  refine zY.istore3 (zc1_I _) hO dX11_openBroken_7 ?_
  have L8 : ∀ i : Nat, i ≤ 6 → ∀ hq : Nat → Int, (∀ x, x < i → hq x = zkfc D c x) → (∀ x, i ≤ x → x < 6 → hq x = D 5 x) → zY Γ (150, zSX, ad, 0, 0) 8 [some (zP 127), some (zI (c : Int)), some (zI (zkq c i : Int)), some (zI (i : Int))] [] (zrow μ 138 hq) := by
    refine zdown (6) (fun i hi_i ih8 => ?_)
    intro hq hJ hJ2
    refine zY.iload_n hO dX11_openBroken_8 rfl ?_
    refine zY.bipush hO dX11_openBroken_9 (by decide) ?_
    refine zY.icmp_ge (tgt := 59) ⟨by omega, by omega⟩ ⟨by omega, by omega⟩ hO dX11_openBroken_11 (by decide) (fun c11 => ?_) (fun c11 => ?_)
    ·
      exact zY.vret rfl ⟨rfl, ⟨hq, rfl, fun x hx => hJ x (by omega)⟩⟩ hR hO dX11_openBroken_59
    ·
      have hql := zkq_lt hv.1 i
      have hdg := hv.2.1 i (by omega)
      have hd7 := zk_lt c i
      have hbx := hM.1.2.1 i (by omega)
      refine zY.aload_n hO dX11_openBroken_14 rfl ?_
      refine zY.getR zfl_X11_40 (by decide : 127 < 150) rfl rfl hO dX11_openBroken_15 ?_
      refine zY.iload_n hO dX11_openBroken_18 rfl ?_
      refine zY.aload_n hO dX11_openBroken_19 rfl ?_
      refine zY.getR zfl_X11_40 (by decide : 127 < 150) rfl rfl hO dX11_openBroken_20 ?_
      refine zY.iload_n hO dX11_openBroken_23 rfl ?_
      refine zY.iald (i) rfl (by omega) (by decide) (by decide : 138 < 150) rfl hO dX11_openBroken_24 ?_
      refine zY.as (b := D 5 i) (by rw [zrow_eq]; exact hJ2 i (Nat.le_refl _) (by omega)) ?_
      refine zY.iload_n hO dX11_openBroken_25 rfl ?_
      refine zY.bipush hO dX11_openBroken_26 (by decide) ?_
      refine zY.irem (c := ((zkdg c i : Nat) : Int)) (by decide) (zrem7 (by omega)) hO dX11_openBroken_28 ?_
      refine zY.icmp_le (tgt := 46) ⟨by omega, by omega⟩ ⟨by omega, by omega⟩ hO dX11_openBroken_29 (by decide) (fun c29 => ?_) (fun c29 => ?_)
      ·
        refine zY.iconst hO dX11_openBroken_46 ?_
        refine zY.as (b := zkfc D c i) (by unfold zkfc; omega) ?_
        refine zY.iast (i) rfl (by omega) (by decide) (by decide : 138 < 150) rfl hO dX11_openBroken_47 ?_
        rw [zwr_row]
        refine zY.iload_n hO dX11_openBroken_48 rfl ?_
        refine zY.bipush hO dX11_openBroken_49 (by decide) ?_
        refine zY.idiv (c := ((zkq c (i + 1) : Nat) : Int)) (by decide) (zdiv7 (by omega)) hO dX11_openBroken_51 ?_
        refine zY.istore2 (zc1_I _) hO dX11_openBroken_52 ?_
        refine zY.iinc3 _ rfl (zc1_I _) hO dX11_openBroken_53 ?_
        refine zY.goto (tgt := 8) hO dX11_openBroken_56 (by decide) ?_
        exact ih8 (by omega) (fun j => if j = i then zkfc D c i else hq j) (fun x hx => by by_cases e : x = i; (· subst e; rw [if_pos rfl]); (· rw [if_neg e]; exact hJ x (by omega))) (fun x h1 h2 => by rw [if_neg (by omega)]; exact hJ2 x (by omega) h2)
      ·
        refine zY.aload_n hO dX11_openBroken_32 rfl ?_
        refine zY.getR zfl_X11_40 (by decide : 127 < 150) rfl rfl hO dX11_openBroken_33 ?_
        refine zY.iload_n hO dX11_openBroken_36 rfl ?_
        refine zY.iald (i) rfl (by omega) (by decide) (by decide : 138 < 150) rfl hO dX11_openBroken_37 ?_
        refine zY.as (b := D 5 i) (by rw [zrow_eq]; exact hJ2 i (Nat.le_refl _) (by omega)) ?_
        refine zY.iload_n hO dX11_openBroken_38 rfl ?_
        refine zY.bipush hO dX11_openBroken_39 (by decide) ?_
        refine zY.irem (c := ((zkdg c i : Nat) : Int)) (by decide) (zrem7 (by omega)) hO dX11_openBroken_41 ?_
        refine zY.isub hO dX11_openBroken_42 ?_
        refine zY.goto (tgt := 47) hO dX11_openBroken_43 (by decide) ?_
        refine zY.as (b := zkfc D c i) (by unfold zkfc; omega) ?_
        refine zY.iast (i) rfl (by omega) (by decide) (by decide : 138 < 150) rfl hO dX11_openBroken_47 ?_
        rw [zwr_row]
        refine zY.iload_n hO dX11_openBroken_48 rfl ?_
        refine zY.bipush hO dX11_openBroken_49 (by decide) ?_
        refine zY.idiv (c := ((zkq c (i + 1) : Nat) : Int)) (by decide) (zdiv7 (by omega)) hO dX11_openBroken_51 ?_
        refine zY.istore2 (zc1_I _) hO dX11_openBroken_52 ?_
        refine zY.iinc3 _ rfl (zc1_I _) hO dX11_openBroken_53 ?_
        refine zY.goto (tgt := 8) hO dX11_openBroken_56 (by decide) ?_
        exact ih8 (by omega) (fun j => if j = i then zkfc D c i else hq j) (fun x hx => by by_cases e : x = i; (· subst e; rw [if_pos rfl]); (· rw [if_neg e]; exact hJ x (by omega))) (fun x h1 h2 => by rw [if_neg (by omega)]; exact hJ2 x (by omega) h2)
  exact L8 0 (by omega) h0q (fun x h => by omega) (fun x _ h => hq2 x h)

set_option maxRecDepth 100000 in
set_option maxHeartbeats 4000000 in
theorem ct_X11_powerOf {nn : Nat} {sh : Nat → zShc} {μ : zMem} {b : Nat} (hb : b < 6) : Ci kX11_powerOf 1 nn sh [zI (b : Int)] μ (fun r μ' => r = (zkpw b : Int) ∧ μ' = μ) := by
  refine Ct.of [some (zI (b : Int)), none, none] rfl (Nat.le_of_ble_eq_true rfl) (by decide +kernel) (fun Γ ad hO hR => ?_)
  refine zY.iconst hO dX11_powerOf_0 ?_
  refine zY.istore1 (zc1_I _) hO dX11_powerOf_1 ?_
  refine zY.iconst hO dX11_powerOf_2 ?_
  refine zY.istore2 (zc1_I _) hO dX11_powerOf_3 ?_
  have L4 : ∀ i : Nat, i ≤ b → zY Γ (nn, sh, ad, 0, 0) 4 [some (zI (b : Int)), some (zI (zkpw i : Int)), some (zI (i : Int))] [] μ := by
    refine zdown (b) (fun i hi_i ih4 => ?_)
    refine zY.iload_n hO dX11_powerOf_4 rfl ?_
    refine zY.iload_n hO dX11_powerOf_5 rfl ?_
    refine zY.icmp_ge (tgt := 20) ⟨by omega, by omega⟩ ⟨by omega, by omega⟩ hO dX11_powerOf_6 (by decide) (fun c6 => ?_) (fun c6 => ?_)
    ·
      refine zY.iload_n hO dX11_powerOf_20 rfl ?_
      exact zY.iret rfl ⟨_, rfl, ⟨by rw [show i = b by omega], rfl⟩⟩ hR hO dX11_powerOf_21
    ·
      refine zY.iload_n hO dX11_powerOf_9 rfl ?_
      refine zY.bipush hO dX11_powerOf_10 (by decide) ?_
      refine zY.imul hO dX11_powerOf_12 ?_
      refine zY.as (b := ((zkpw (i + 1) : Nat) : Int)) (by simp only [zkpw]; omega) ?_
      refine zY.istore1 (zc1_I _) hO dX11_powerOf_13 ?_
      refine zY.iinc2 _ rfl (zc1_I _) hO dX11_powerOf_14 ?_
      refine zY.goto (tgt := 4) hO dX11_powerOf_17 (by decide) ?_
      exact ih4 (by omega)
  exact L4 0 (by omega)

set_option maxRecDepth 100000 in
set_option maxHeartbeats 4000000 in
theorem ct_X11_mayChange {μ : zMem} {D : zBk} {K0 K1 : Option zBk} (hM : zMd D K0 K1 μ) {s : Nat} (hs : s < 6) : Ci kX11_mayChange 1 150 zSX [zP 127, zI (s : Int)] μ (fun r μ' => r = (zmay D s (D 4 s).toNat : Int) ∧ μ' = μ) := by
  refine Ct.of [some (zP 127), some (zI (s : Int)), none, none] rfl (Nat.le_of_ble_eq_true rfl) (by decide +kernel) (fun Γ ad hO hR => ?_)
  have hsz := hM.1.2.1 s hs
  refine zY.iconst hO dX11_mayChange_0 ?_
  refine zY.istore2 (zc1_I _) hO dX11_mayChange_1 ?_
  refine zY.iconst hO dX11_mayChange_2 ?_
  refine zY.istore3 (zc1_I _) hO dX11_mayChange_3 ?_
  have L4 : ∀ i : Nat, i ≤ (D 4 s).toNat → zY Γ (150, zSX, ad, 0, 0) 4 [some (zP 127), some (zI (s : Int)), some (zI (zmay D s i : Int)), some (zI (i : Int))] [] μ := by
    refine zdown ((D 4 s).toNat) (fun i hi_i ih4 => ?_)
    refine zY.iload_n hO dX11_mayChange_4 rfl ?_
    refine zY.aload_n hO dX11_mayChange_5 rfl ?_
    refine zY.getR zfl_X11_22 (by decide : 127 < 150) rfl rfl hO dX11_mayChange_6 ?_
    refine zY.iload_n hO dX11_mayChange_9 rfl ?_
    refine zY.iald (s) rfl (by omega) (by decide) (by decide : 132 < 150) rfl hO dX11_mayChange_10 ?_
    refine zY.as (b := D 4 s) (hM.2.1.1 4 (by omega) (by omega) s hs) ?_
    refine zY.icmp_ge (tgt := 49) ⟨by omega, by omega⟩ ⟨by omega, by omega⟩ hO dX11_mayChange_11 (by decide) (fun c11 => ?_) (fun c11 => ?_)
    ·
      refine zY.iload_n hO dX11_mayChange_49 rfl ?_
      exact zY.iret rfl ⟨_, rfl, ⟨by rw [show i = (D 4 s).toNat by omega], rfl⟩⟩ hR hO dX11_mayChange_50
    ·
      have hpg := hsz.2.2.2.2.2.2.2.2.2 i (by omega)
      obtain ⟨wq, hwq⟩ : ∃ wq : Nat, D 3 (6 * s + i) = (wq : Int) := ⟨(D 3 (6 * s + i)).toNat, by omega⟩
      have hwd := hM.1.1 wq (by omega)
      have hml := zmay_64 D s (show i ≤ 6 by omega)
      refine zY.iload_n hO dX11_mayChange_14 rfl ?_
      refine zY.aload_n hO dX11_mayChange_15 rfl ?_
      refine zY.getR zfl_X11_16 (by decide : 127 < 150) rfl rfl hO dX11_mayChange_16 ?_
      refine zY.aload_n hO dX11_mayChange_19 rfl ?_
      refine zY.getR zfl_X11_19 (by decide : 127 < 150) rfl rfl hO dX11_mayChange_20 ?_
      refine zY.bipush hO dX11_mayChange_23 (by decide) ?_
      refine zY.iload_n hO dX11_mayChange_25 rfl ?_
      refine zY.imul hO dX11_mayChange_26 ?_
      refine zY.iload_n hO dX11_mayChange_27 rfl ?_
      refine zY.iadd hO dX11_mayChange_28 ?_
      refine zY.iald (6 * s + i) (by omega) (by omega) (by decide) (by decide : 131 < 150) rfl hO dX11_mayChange_29 ?_
      refine zY.as (b := (wq : Int)) ((hM.2.1.2.2.2.1 s hs i (by omega)).trans hwq) ?_
      refine zY.iald (wq) rfl (by omega) (by decide) (by decide : 130 < 150) rfl hO dX11_mayChange_30 ?_
      refine zY.as (b := D 2 wq) (hM.2.1.2.1 2 (by omega) (by omega) wq (by omega)) ?_
      refine zY.if_lt (tgt := 40) ⟨by omega, by omega⟩ hO dX11_mayChange_31 (by decide) (fun c31 => ?_) (fun c31 => ?_)
      ·
        refine zY.iconst hO dX11_mayChange_40 ?_
        refine zY.ior (c := ((zmay D s i ||| 0 : Nat) : Int)) (zb_or _ hml 0 (by decide)) hO dX11_mayChange_41 ?_
        refine zY.as (b := ((zmay D s (i + 1) : Nat) : Int)) (by simp only [zmay]; rw [hwq, Int.toNat_natCast, if_neg (by omega), Nat.or_zero]) ?_
        refine zY.istore2 (zc1_I _) hO dX11_mayChange_42 ?_
        refine zY.iinc3 _ rfl (zc1_I _) hO dX11_mayChange_43 ?_
        refine zY.goto (tgt := 4) hO dX11_mayChange_46 (by decide) ?_
        exact ih4 (by omega)
      ·
        refine zY.iconst hO dX11_mayChange_34 ?_
        refine zY.iload_n hO dX11_mayChange_35 rfl ?_
        refine zY.ishl (c := ((2 ^ i : Nat) : Int)) (zb_shl i (by omega)) hO dX11_mayChange_36 ?_
        refine zY.goto (tgt := 41) hO dX11_mayChange_37 (by decide) ?_
        refine zY.ior (c := ((zmay D s i ||| 2 ^ i : Nat) : Int)) (zb_or _ hml _ (zb_two i (by omega))) hO dX11_mayChange_41 ?_
        refine zY.as (b := ((zmay D s (i + 1) : Nat) : Int)) (by simp only [zmay]; rw [hwq, Int.toNat_natCast, if_pos (by omega)]) ?_
        refine zY.istore2 (zc1_I _) hO dX11_mayChange_42 ?_
        refine zY.iinc3 _ rfl (zc1_I _) hO dX11_mayChange_43 ?_
        refine zY.goto (tgt := 4) hO dX11_mayChange_46 (by decide) ?_
        exact ih4 (by omega)
  exact L4 0 (by omega)

set_option maxRecDepth 100000 in
set_option maxHeartbeats 4000000 in
theorem ct_X11_brokenBehind {μ : zMem} {D : zBk} {K0 K1 : Option zBk} (hM : zMd D K0 K1 μ) (hOq : zOrd D) {p c ch : Nat} (hp : p < zN D) (hv : zkv D p c) (hch : ch < 64) : Ci kX11_brokenBehind 5 150 zSX [zP 127, zI (p : Int), zI (c : Int), zI (ch : Int)] μ (fun r μ' => r = (if zcan D p ch (zkfc D c) then ((c + zkpw (zbx D (zord D p) ch).toNat : Nat) : Int) else -6) ∧ ∃ n h, μ' = zrow (zrow μ 137 n) 138 h) := by
  refine Ct.of [some (zP 127), some (zI (p : Int)), some (zI (c : Int)), some (zI (ch : Int)), none] rfl (Nat.le_of_ble_eq_true rfl) (by decide +kernel) (fun Γ ad hO hR => ?_)
  have ho := hOq.2.1 p hp
  have hn6 := hOq.1.2
  obtain ⟨sq, hsq⟩ : ∃ sq : Nat, sq = zord D p := ⟨_, rfl⟩
  have hs6 : sq < 6 := by omega
  have hsz := hM.1.2.1 sq hs6
  have hml := zmay_64 D sq (show (D 4 sq).toNat ≤ 6 by omega)
  have hok := zokc_iff hM.1 hs6 hch
  refine zY.aload_n hO dX11_brokenBehind_0 rfl ?_
  refine zY.iload_n hO dX11_brokenBehind_1 rfl ?_
  refine zY.callV1iD (ct_X11_sheetAt hM (i := p) (by omega)) (by decide) zcal_X11_sheetAt zml_X11_171 (by decide : 127 < 150) rfl rfl (Nat.le_of_ble_eq_true rfl) rfl ⟨Nat.zero_le _, Nat.zero_le _⟩ hO dX11_brokenBehind_2 ?_
  refine zY.as (b := (sq : Int)) (by omega) ?_
  refine zY.istore4 (zc1_I _) hO dX11_brokenBehind_5 ?_
  refine zY.iload_n hO dX11_brokenBehind_7 rfl ?_
  refine zY.aload_n hO dX11_brokenBehind_8 rfl ?_
  refine zY.iload hO dX11_brokenBehind_9 rfl ?_
  refine zY.callV1iD (ct_X11_mayChange hM hs6) (by decide) zcal_X11_mayChange zml_X11_199 (by decide : 127 < 150) rfl rfl (Nat.le_of_ble_eq_true rfl) rfl ⟨Nat.zero_le _, Nat.zero_le _⟩ hO dX11_brokenBehind_11 ?_
  refine zY.iconst hO dX11_brokenBehind_14 ?_
  refine zY.ixor (c := (-1 - (zmay D sq (D 4 sq).toNat : Int))) (zb_not _ hml) hO dX11_brokenBehind_15 ?_
  refine zY.iand (c := ((ch - (ch &&& zmay D sq (D 4 sq).toNat) : Nat) : Int)) (zb_andn _ hch _ hml) hO dX11_brokenBehind_16 ?_
  refine zY.if_eq (tgt := 23) ⟨by omega, by omega⟩ hO dX11_brokenBehind_17 (by decide) (fun c17 => ?_) (fun c17 => ?_)
  ·
    have hokc := hok.mp (by omega)
    refine zY.aload_n hO dX11_brokenBehind_23 rfl ?_
    refine zY.iload_n hO dX11_brokenBehind_24 rfl ?_
    refine zY.callV1v (ct_X11_openBroken hM hv) (by decide) zcal_X11_openBroken zml_X11_202 (by decide : 127 < 150) rfl rfl (Nat.le_of_ble_eq_true rfl) rfl ⟨Nat.zero_le _, Nat.zero_le _⟩ hO dX11_brokenBehind_25 (fun μ2 hq1 => ?_)
    obtain ⟨hq, hq1, hq2⟩ := hq1
    have hM2 : zMd D K0 K1 μ2 := by rw [hq1]; exact (zScr.rfl'.row (by decide) (by decide) : zScr μ _).md hM
    refine zY.aload_n hO dX11_brokenBehind_28 rfl ?_
    refine zY.iload hO dX11_brokenBehind_29 rfl ?_
    refine zY.iload_n hO dX11_brokenBehind_31 rfl ?_
    refine zY.callV2v (ct_X11_findNeeds (ch := ch) hM2 hs6 hch hokc) (by decide) zcal_X11_findNeeds zml_X11_149 (by decide : 127 < 150) rfl rfl (Nat.le_of_ble_eq_true rfl) rfl ⟨Nat.zero_le _, Nat.zero_le _⟩ hO dX11_brokenBehind_32 (fun μ3 hq3 => ?_)
    obtain ⟨n3q, hq3, hq4⟩ := hq3
    have hn3 : ∀ x, x < 6 → μ3 137 x = znd D sq ch x := fun x hx => by rw [hq3, zrow_eq]; exact hq4 x hx
    have hl3 : ∀ x, x < 6 → μ3 138 x = zkfc D c x := fun x hx => by rw [hq3, zrow_ne (by decide), hq1, zrow_eq]; exact hq2 x hx
    have hrz : ∀ x, x < 6 → -1000 ≤ znd D sq ch x ∧ znd D sq ch x ≤ 1000 ∧ -1000 ≤ zkfc D c x ∧ zkfc D c x ≤ 1000 := fun x hx => by have h1q := znd_b (ch := ch) x hM.1 hs6; have h2q := zkv_fc hv x hx; have h3q := hM.1.2.1 x hx; omega
    have hm3 : μ3 = zrow (zrow μ 137 n3q) 138 hq := by rw [hq3, hq1]; funext q' j'; by_cases e1 : q' = 138 <;> by_cases e2 : q' = 137 <;> simp [zrow, e1, e2]
    have hM3 : zMd D K0 K1 μ3 := by rw [hm3]; exact ((zScr.rfl'.row (by decide) (by decide)).row (by decide) (by decide) : zScr μ _).md hM
    refine zY.aload_n hO dX11_brokenBehind_35 rfl ?_
    refine zY.callV0iD (ct_X11_lacking hn3 hl3 hrz) (by decide) zcal_X11_lacking zml_X11_174 (by decide : 127 < 150) rfl rfl (Nat.le_of_ble_eq_true rfl) rfl ⟨Nat.zero_le _, Nat.zero_le _⟩ hO dX11_brokenBehind_36 ?_
    have hfz := zfst_0 (A := znd D sq ch) (F := zkfc D c)
    have hfb := zfst_b (fun x => decide (zkfc D c x < znd D sq ch x)) 6 0
    have hbx : zbx D sq ch = zbk D sq ch := by unfold zbx; rw [if_pos ⟨hokc, by rw [hsq]; exact ho.2.2⟩]
    have hbb := zbk_b ch hM.1 hs6 (by rw [hsq]; exact ho.2.2)
    obtain ⟨bq, hbq⟩ : ∃ bq : Nat, zbk D sq ch = (bq : Int) := ⟨(zbk D sq ch).toNat, by omega⟩
    have hpw := zkpw_b bq (by omega)
    have hcl := hv.1
    refine zY.if_lt (tgt := 47) ⟨by omega, by omega⟩ hO dX11_brokenBehind_39 (by decide) (fun c39 => ?_) (fun c39 => ?_)
    ·
      refine zY.iload_n hO dX11_brokenBehind_47 rfl ?_
      refine zY.aload_n hO dX11_brokenBehind_48 rfl ?_
      refine zY.iload hO dX11_brokenBehind_49 rfl ?_
      refine zY.iload_n hO dX11_brokenBehind_51 rfl ?_
      refine zY.callV2iD (ct_X11_breaksBy hM3 hs6 hch hokc (by rw [hsq]; exact ho.2.2) hn3) (by decide) zcal_X11_breaksBy zml_X11_152 (by decide : 127 < 150) rfl rfl (Nat.le_of_ble_eq_true rfl) rfl ⟨Nat.zero_le _, Nat.zero_le _⟩ hO dX11_brokenBehind_52 ?_
      refine zY.as hbq ?_
      refine zY.callS1iD (ct_X11_powerOf (b := bq) (by omega)) (by decide) zcal_X11_powerOf zml_X11_205 (Nat.le_of_ble_eq_true rfl) rfl ⟨Nat.zero_le _, Nat.zero_le _⟩ hO dX11_brokenBehind_55 ?_
      refine zY.iadd hO dX11_brokenBehind_58 ?_
      exact zY.iret rfl ⟨_, rfl, ⟨by rw [if_pos ⟨by rw [← hsq, hbx]; omega, by rw [← hsq]; exact hfz.mp (by omega)⟩, ← hsq, hbx, hbq, Int.toNat_natCast]; omega, n3q, hq, hm3⟩⟩ hR hO dX11_brokenBehind_59
    ·
      refine zY.bipush hO dX11_brokenBehind_42 (by decide) ?_
      refine zY.goto (tgt := 59) hO dX11_brokenBehind_44 (by decide) ?_
      exact zY.iret rfl ⟨_, rfl, ⟨by rw [if_neg (fun z => by have h1 := z.2; rw [← hsq] at h1; have := hfz.mpr h1; omega)], n3q, hq, hm3⟩⟩ hR hO dX11_brokenBehind_59
  ·
    have hnc : ¬ zokc D sq ch := fun z => by have := hok.mpr z; omega
    refine zY.bipush hO dX11_brokenBehind_20 (by decide) ?_
    exact zY.iret rfl ⟨_, rfl, ⟨by rw [if_neg (fun z => by obtain ⟨b, -, -, -, h, -⟩ := zcan_b hM.1 (by omega) z; rw [← hsq] at h; exact hnc h)], μ 137, μ 138, by rw [zrow_self (q := 137) (fun _ => rfl), zrow_self (fun _ => rfl)]⟩⟩ hR hO dX11_brokenBehind_22

set_option maxRecDepth 100000 in
set_option maxHeartbeats 4000000 in
theorem ct_X11_findBroken {μ : zMem} {D : zBk} {K0 K1 : Option zBk} (hM : zMd D K0 K1 μ) (hOq : zOrd D) : Cv kX11_findBroken 6 150 zSX [zP 127] μ (fun μ' => zFB D μ μ' (zN D)) := by
  refine Ct.of [some (zP 127), none, none, none, none] rfl (Nat.le_of_ble_eq_true rfl) (by decide +kernel) (fun Γ ad hO hR => ?_)
  have hn := zN_eq hM.1
  have hn6 := hOq.1.2
  refine zY.aload_n hO dX11_findBroken_0 rfl ?_
  refine zY.getR zfl_X11_52 (by decide : 127 < 150) rfl rfl hO dX11_findBroken_1 ?_
  refine zY.iconst hO dX11_findBroken_4 ?_
  refine zY.iconst hO dX11_findBroken_5 ?_
  refine zY.iast (0) rfl (by omega) (by decide) (by decide : 142 < 150) rfl hO dX11_findBroken_6 ?_
  refine zY.aload_n hO dX11_findBroken_7 rfl ?_
  refine zY.getR zfl_X11_49 (by decide : 127 < 150) rfl rfl hO dX11_findBroken_8 ?_
  refine zY.iconst hO dX11_findBroken_11 ?_
  refine zY.iconst hO dX11_findBroken_12 ?_
  refine zY.iast (0) rfl (by omega) (by decide) (by decide : 141 < 150) rfl hO dX11_findBroken_13 ?_
  refine zY.iconst hO dX11_findBroken_14 ?_
  refine zY.istore1 (zc1_P _) hO dX11_findBroken_15 ?_
  have L16 : ∀ i : Nat, i ≤ zN D → ∀ μ1 : zMem, zFB D μ μ1 i → zY Γ (150, zSX, ad, 0, 0) 16 [some (zP 127), some (zI (i : Int)), none, none, none] [] μ1 := by
    refine zdown (zN D) (fun i hi_i ih16 => ?_)
    intro μ1 hF
    refine zY.iload_n hO dX11_findBroken_16 rfl ?_
    refine zY.aload_n hO dX11_findBroken_17 rfl ?_
    refine zY.getI zfl_X11_93 (by decide : 127 < 150) rfl rfl hO dX11_findBroken_18 ?_
    refine zY.as (b := (zN D : Int)) ((hF.1.md hM).2.2.1.2.trans hn.1) ?_
    refine zY.icmp_ge (tgt := 143) ⟨by omega, by omega⟩ ⟨by omega, by omega⟩ hO dX11_findBroken_21 (by decide) (fun c21 => ?_) (fun c21 => ?_)
    ·
      exact zY.vret rfl ⟨rfl, (by rw [← show i = zN D by omega]; exact hF)⟩ hR hO dX11_findBroken_143
    ·
      refine zY.aload_n hO dX11_findBroken_24 rfl ?_
      refine zY.getR zfl_X11_52 (by decide : 127 < 150) rfl rfl hO dX11_findBroken_25 ?_
      refine zY.iload_n hO dX11_findBroken_28 rfl ?_
      refine zY.iconst hO dX11_findBroken_29 ?_
      refine zY.iadd hO dX11_findBroken_30 ?_
      refine zY.iconst hO dX11_findBroken_31 ?_
      refine zY.iast (i + 1) (by omega) (by omega) (by decide) (by decide : 142 < 150) rfl hO dX11_findBroken_32 ?_
      obtain ⟨mi, hmi⟩ : ∃ mi : Nat, μ1 142 i = (mi : Int) := ⟨(μ1 142 i).toNat, by have := (hF.2.1 i (Nat.le_refl _)).1; omega⟩
      refine zY.iconst hO dX11_findBroken_33 ?_
      refine zY.istore2 (zc1_I _) hO dX11_findBroken_34 ?_
      have L35 : ∀ k : Nat, k ≤ mi → ∀ μ2 : zMem, zFB D μ μ2 i → zBr D μ2 (i + 1) → μ2 142 i = (mi : Int) → (∀ k', k' < k → ∀ c' : Nat, μ2 141 (600 * i + k') = (c' : Int) → ∀ ch, ch < 64 → zCl D μ2 i c' ch) → zY Γ (150, zSX, ad, 0, 0) 35 [some (zP 127), some (zI (i : Int)), some (zI (k : Int)), none, none] [] μ2 := by
        refine zdown (mi) (fun k hi_k ih35 => ?_)
        intro μ2 hF2 hB2 hm2 hC2
        refine zY.iload_n hO dX11_findBroken_35 rfl ?_
        refine zY.aload_n hO dX11_findBroken_36 rfl ?_
        refine zY.getR zfl_X11_52 (by decide : 127 < 150) rfl rfl hO dX11_findBroken_37 ?_
        refine zY.iload_n hO dX11_findBroken_40 rfl ?_
        refine zY.iald (i) rfl (by omega) (by decide) (by decide : 142 < 150) rfl hO dX11_findBroken_41 ?_
        have hml := zBr_le (hF2.2.1 i (Nat.le_refl _)) (by omega)
        rw [hm2, Int.toNat_natCast] at hml
        refine zY.as hm2 ?_
        refine zY.icmp_ge (tgt := 137) ⟨by omega, by omega⟩ ⟨by omega, by omega⟩ hO dX11_findBroken_42 (by decide) (fun c42 => ?_) (fun c42 => ?_)
        ·
          refine zY.iinc1 _ rfl (zc1_P _) hO dX11_findBroken_137 ?_
          refine zY.goto (tgt := 16) hO dX11_findBroken_140 (by decide) ?_
          refine zY.none2 ?_
          refine ih16 (by omega) μ2 ⟨hF2.1, fun q hq => ?_, fun q hq k' hk' c' hc' ch hch => ?_, hF2.2.2.2.1, hF2.2.2.2.2⟩
          · by_cases e : q = i + 1
            · subst e; exact hB2
            · exact hF2.2.1 q (by omega)
          · by_cases e : q = i
            · subst e
              rw [hm2, Int.toNat_natCast] at hk'
              exact hC2 k' (by omega) c' hc' ch hch
            · exact hF2.2.2.1 q (by omega) k' hk' c' hc' ch hch
        ·
          have hki : k < mi := by omega
          obtain ⟨c, hck, hcv⟩ := (hF2.2.1 i (Nat.le_refl _)).2.1 k (by rw [hm2, Int.toNat_natCast]; exact hki)
          refine zY.iconst hO dX11_findBroken_45 ?_
          refine zY.istore3 (zc1_I _) hO dX11_findBroken_46 ?_
          have L47 : ∀ cq : Nat, cq ≤ 64 → ∀ μ3 : zMem, zFC D μ μ3 i mi k cq c → zY Γ (150, zSX, ad, 0, 0) 47 [some (zP 127), some (zI (i : Int)), some (zI (k : Int)), some (zI (cq : Int)), none] [] μ3 := by
            refine zdown (64) (fun cq hi_cq ih47 => ?_)
            intro μ3 hF3
            refine zY.iload_n hO dX11_findBroken_47 rfl ?_
            refine zY.bipush hO dX11_findBroken_48 (by decide) ?_
            refine zY.icmp_ge (tgt := 131) ⟨by omega, by omega⟩ ⟨by omega, by omega⟩ hO dX11_findBroken_50 (by decide) (fun c50 => ?_) (fun c50 => ?_)
            ·
              refine zY.iinc2 _ rfl (zc1_I _) hO dX11_findBroken_131 ?_
              refine zY.goto (tgt := 35) hO dX11_findBroken_134 (by decide) ?_
              refine zY.none3 ?_
              exact ih35 (by omega) μ3 hF3.1 hF3.2.1 hF3.2.2.1 (fun k' hk' c' hc' ch hch => by
                by_cases e : k' = k
                · subst e
                  have e2 : c' = c := by have h1 := hF3.2.2.2.2.1; omega
                  rw [e2]; exact hF3.2.2.2.2.2 ch (by omega)
                · exact hF3.2.2.2.1 k' (by omega) c' hc' ch hch)
            ·
              refine zY.aload_n hO dX11_findBroken_53 rfl ?_
              refine zY.iload_n hO dX11_findBroken_54 rfl ?_
              refine zY.aload_n hO dX11_findBroken_55 rfl ?_
              refine zY.getR zfl_X11_49 (by decide : 127 < 150) rfl rfl hO dX11_findBroken_56 ?_
              refine zY.sipush hO dX11_findBroken_59 (by decide) ?_
              refine zY.iload_n hO dX11_findBroken_62 rfl ?_
              refine zY.imul hO dX11_findBroken_63 ?_
              refine zY.iload_n hO dX11_findBroken_64 rfl ?_
              refine zY.iadd hO dX11_findBroken_65 ?_
              refine zY.iald (600 * i + k) (by omega) (by omega) (by decide) (by decide : 141 < 150) rfl hO dX11_findBroken_66 ?_
              refine zY.as hF3.2.2.2.2.1 ?_
              refine zY.iload_n hO dX11_findBroken_67 rfl ?_
              refine zY.callV3i (ct_X11_brokenBehind (hF3.1.1.md hM) hOq (p := i) (c := c) (ch := cq) (by omega) hcv (by omega)) (by decide) zcal_X11_brokenBehind zml_X11_208 (by decide : 127 < 150) rfl rfl (Nat.le_of_ble_eq_true rfl) rfl ⟨Nat.zero_le _, Nat.zero_le _⟩ hO dX11_findBroken_68 (fun nx μ4 hq4 => ?_)
              obtain ⟨hnx, n4q, h4q, hq5⟩ := hq4
              have hs4 : zScr μ μ4 := by rw [hq5]; exact (hF3.1.1.row (by decide) (by decide)).row (by decide) (by decide)
              have hF4 := hF3.mv (μ4 := μ4) hs4 (by rw [hq5, zrow_ne (by decide), zrow_ne (by decide)]) (by rw [hq5, zrow_ne (by decide), zrow_ne (by decide)]) (by omega)
              have hB4 := hF4.2.1
              have hml4 := zBr_le hB4 (by omega)
              have hnr : zr nx := by
                rw [hnx]
                by_cases z : zcan D i cq (zkfc D c)
                · obtain ⟨b, h1, h2, -⟩ := zcan_b hM.1 (hOq.2.1 i (by omega)).2.1 z
                  have h3 := zkpw_b b h2
                  have h4 := hcv.1
                  rw [if_pos z, h1, Int.toNat_natCast]
                  exact ⟨by omega, by omega⟩
                · rw [if_neg z]; exact ⟨by omega, by omega⟩
              refine zY.istore4 (zc1_I _) hO dX11_findBroken_71 ?_
              refine zY.iload hO dX11_findBroken_73 rfl ?_
              refine zY.if_lt (tgt := 125) hnr hO dX11_findBroken_75 (by decide) (fun c75 => ?_) (fun c75 => ?_)
              ·
                have hnc : ¬ zcan D i cq (zkfc D c) := fun z => by rw [if_pos z] at hnx; omega
                refine zY.iinc3 _ rfl (zc1_I _) hO dX11_findBroken_125 ?_
                refine zY.goto (tgt := 47) hO dX11_findBroken_128 (by decide) ?_
                refine zY.none4 ?_
                exact ih47 (by omega) μ4 (hF4.next (fun z => absurd z hnc))
              ·
                have hyc : zcan D i cq (zkfc D c) := by
                  by_cases z : zcan D i cq (zkfc D c)
                  · exact z
                  · rw [if_neg z] at hnx; omega
                rw [if_pos hyc] at hnx
                obtain ⟨c2, hc2⟩ : ∃ c2 : Nat, c2 = c + zkpw (zbx D (zord D i) cq).toNat := ⟨_, rfl⟩
                rw [← hc2] at hnx
                subst hnx
                obtain ⟨bq, hb1, hb2, hb3, -⟩ := zcan_b hM.1 (hOq.2.1 i (by omega)).2.1 hyc
                have hcv2 : zkv D (i + 1) c2 := by rw [hc2, hb1, Int.toNat_natCast]; exact (zkv_next hcv (by omega) hb2 hb3).1
                have hzi := zin_of (μ := μ4) (p := i + 1) (c := (c2 : Int))
                refine zY.aload_n hO dX11_findBroken_78 rfl ?_
                refine zY.iload_n hO dX11_findBroken_79 rfl ?_
                refine zY.iconst hO dX11_findBroken_80 ?_
                refine zY.iadd hO dX11_findBroken_81 ?_
                refine zY.iload hO dX11_findBroken_82 rfl ?_
                refine zY.as2 (b := ((i + 1 : Nat) : Int)) (by omega) ?_
                refine zY.callV2iD (ct_X11_numberOf (p := i + 1) (by omega) hB4.1 (by omega) (zBr_r hB4) hnr) (by decide) zcal_X11_numberOf zml_X11_211 (by decide : 127 < 150) rfl rfl (Nat.le_of_ble_eq_true rfl) rfl ⟨Nat.zero_le _, Nat.zero_le _⟩ hO dX11_findBroken_84 ?_
                refine zY.if_ge (tgt := 125) (by rcases hzi with ⟨h, -⟩ | ⟨k2, h, h2, -⟩; (· rw [h]; exact ⟨by omega, by omega⟩); (· rw [h]; exact ⟨by omega, by omega⟩)) hO dX11_findBroken_87 (by decide) (fun c87 => ?_) (fun c87 => ?_)
                ·
                  have hin : zIn μ4 (i + 1) c2 := by
                    rcases hzi with ⟨h, -⟩ | ⟨k2, h, h2, h3⟩
                    · omega
                    · exact ⟨k2, h2, h3⟩
                  refine zY.iinc3 _ rfl (zc1_I _) hO dX11_findBroken_125 ?_
                  refine zY.goto (tgt := 47) hO dX11_findBroken_128 (by decide) ?_
                  refine zY.none4 ?_
                  exact ih47 (by omega) μ4 (hF4.next (fun _ => hc2 ▸ hin))
                ·
                  have hnin : ¬ zIn μ4 (i + 1) c2 := by
                    rcases hzi with ⟨h, h5⟩ | ⟨k2, h, h2, h3⟩
                    · rintro ⟨k3, h6, h7⟩; exact h5 k3 h6 h7
                    · omega
                  obtain ⟨mq, hmq⟩ : ∃ mq : Nat, μ4 142 (i + 1) = (mq : Int) := ⟨(μ4 142 (i + 1)).toNat, (Int.toNat_of_nonneg hB4.1).symm⟩
                  rw [hmq, Int.toNat_natCast] at hml4
                  refine zY.aload_n hO dX11_findBroken_90 rfl ?_
                  refine zY.getR zfl_X11_49 (by decide : 127 < 150) rfl rfl hO dX11_findBroken_91 ?_
                  refine zY.sipush hO dX11_findBroken_94 (by decide) ?_
                  refine zY.iload_n hO dX11_findBroken_97 rfl ?_
                  refine zY.iconst hO dX11_findBroken_98 ?_
                  refine zY.iadd hO dX11_findBroken_99 ?_
                  refine zY.imul hO dX11_findBroken_100 ?_
                  refine zY.aload_n hO dX11_findBroken_101 rfl ?_
                  refine zY.getR zfl_X11_52 (by decide : 127 < 150) rfl rfl hO dX11_findBroken_102 ?_
                  refine zY.iload_n hO dX11_findBroken_105 rfl ?_
                  refine zY.iconst hO dX11_findBroken_106 ?_
                  refine zY.iadd hO dX11_findBroken_107 ?_
                  refine zY.iald (i + 1) (by omega) (by omega) (by decide) (by decide : 142 < 150) rfl hO dX11_findBroken_108 ?_
                  refine zY.as hmq ?_
                  refine zY.iadd hO dX11_findBroken_109 ?_
                  refine zY.iload hO dX11_findBroken_110 rfl ?_
                  refine zY.iast (600 * (i + 1) + mq) (by omega) (by omega) (by decide) (by decide : 141 < 150) rfl hO dX11_findBroken_112 ?_
                  refine zY.aload_n hO dX11_findBroken_113 rfl ?_
                  refine zY.getR zfl_X11_52 (by decide : 127 < 150) rfl rfl hO dX11_findBroken_114 ?_
                  refine zY.iload_n hO dX11_findBroken_117 rfl ?_
                  refine zY.iconst hO dX11_findBroken_118 ?_
                  refine zY.iadd hO dX11_findBroken_119 ?_
                  refine zY.dup2 rfl rfl hO dX11_findBroken_120 ?_
                  refine zY.iald (i + 1) (by omega) (by omega) (by decide) (by decide : 142 < 150) rfl hO dX11_findBroken_121 ?_
                  refine zY.as (b := (mq : Int)) (by rw [zwr_ne (by decide)]; exact hmq) ?_
                  refine zY.iconst hO dX11_findBroken_122 ?_
                  refine zY.iadd hO dX11_findBroken_123 ?_
                  refine zY.iast (i + 1) (by omega) (by omega) (by decide) (by decide : 142 < 150) rfl hO dX11_findBroken_124 ?_
                  refine zY.iinc3 _ rfl (zc1_I _) hO dX11_findBroken_125 ?_
                  refine zY.goto (tgt := 47) hO dX11_findBroken_128 (by decide) ?_
                  refine zY.none4 ?_
                  exact ih47 (by omega) _ (hF4.app (by omega) hmq hki hcv2 hnin hc2)
          exact L47 0 (by omega) μ2 ⟨hF2, hB2, hm2, hC2, hck, fun ch h => by omega⟩
      exact L35 0 (by omega) _ (hF.loc (hF.1.wr (by decide) (by decide)) (by omega) (fun j _ => by rw [zwr_ne (by decide)]) (fun q hq => by rw [zwr_nk (by omega)])) zBr_z (by rw [zwr_nk (by omega)]; exact hmi) (fun k h => by omega)
  exact L16 0 (by omega) _ (zFB_0 hM.1)

set_option maxRecDepth 100000 in
set_option maxHeartbeats 4000000 in
theorem ct_X11_fewestBy {μ : zMem} {D : zBk} {K0 K1 : Option zBk} (hM : zMd D K0 K1 μ) (hOq : zOrd D) {p c ch : Nat} (hp : p < zN D) (hv : zkv D p c) (hch : ch < 64) (hcl : zCl D μ p c ch) (hB : zBr D μ (p + 1)) (hFw : ∀ k, k < (μ 142 (p + 1)).toNat → ∀ c2 : Nat, μ 141 (600 * (p + 1) + k) = (c2 : Int) → μ 143 (600 * (p + 1) + k) = zfw D (zN D - (p + 1)) (p + 1) (zkfc D c2)) : Ci kX11_fewestBy 6 150 zSX [zP 127, zI (p : Int), zI (c : Int), zI (ch : Int)] μ (fun r μ' => r = (zfwA D (zfw D (zN D - (p + 1)) (p + 1)) p (zkfc D c)) ch ∧ ∃ n h, μ' = zrow (zrow μ 137 n) 138 h) := by
  refine Ct.of [some (zP 127), some (zI (p : Int)), some (zI (c : Int)), some (zI (ch : Int)), none, none] rfl (Nat.le_of_ble_eq_true rfl) (by decide +kernel) (fun Γ ad hO hR => ?_)
  have hn6 := hOq.1.2
  refine zY.aload_n hO dX11_fewestBy_0 rfl ?_
  refine zY.iload_n hO dX11_fewestBy_1 rfl ?_
  refine zY.iload_n hO dX11_fewestBy_2 rfl ?_
  refine zY.iload_n hO dX11_fewestBy_3 rfl ?_
  refine zY.callV3i (ct_X11_brokenBehind hM hOq hp hv hch) (by decide) zcal_X11_brokenBehind zml_X11_208 (by decide : 127 < 150) rfl rfl (Nat.le_of_ble_eq_true rfl) rfl ⟨Nat.zero_le _, Nat.zero_le _⟩ hO dX11_fewestBy_4 (fun nx μ4 hq4 => ?_)
  obtain ⟨hnx, n4q, h4q, hq5⟩ := hq4
  have h141 : μ4 141 = μ 141 := by rw [hq5, zrow_ne (by decide), zrow_ne (by decide)]
  have h142 : μ4 142 = μ 142 := by rw [hq5, zrow_ne (by decide), zrow_ne (by decide)]
  have h143 : μ4 143 = μ 143 := by rw [hq5, zrow_ne (by decide), zrow_ne (by decide)]
  have hB4 := hB.mv h141 h142
  have hml4 := zBr_le hB4 (by omega)
  have hnr : zr nx := by
    rw [hnx]
    by_cases z : zcan D p ch (zkfc D c)
    · obtain ⟨b, h1, h2, -⟩ := zcan_b hM.1 (hOq.2.1 p hp).2.1 z
      have h3 := zkpw_b b h2
      have h4 := hv.1
      rw [if_pos z, h1, Int.toNat_natCast]
      exact ⟨by omega, by omega⟩
    · rw [if_neg z]; exact ⟨by omega, by omega⟩
  refine zY.istore4 (zc1_I _) hO dX11_fewestBy_7 ?_
  refine zY.iload hO dX11_fewestBy_9 rfl ?_
  refine zY.if_ge (tgt := 17) hnr hO dX11_fewestBy_11 (by decide) (fun c11 => ?_) (fun c11 => ?_)
  ·
    have hyc : zcan D p ch (zkfc D c) := by
      by_cases z : zcan D p ch (zkfc D c)
      · exact z
      · rw [if_neg z] at hnx; omega
    rw [if_pos hyc] at hnx
    obtain ⟨c2, hc2⟩ : ∃ c2 : Nat, c2 = c + zkpw (zbx D (zord D p) ch).toNat := ⟨_, rfl⟩
    rw [← hc2] at hnx
    subst hnx
    obtain ⟨bq, hb1, hb2, hb3, -⟩ := zcan_b hM.1 (hOq.2.1 p hp).2.1 hyc
    have hnext := zkv_next hv (by omega) hb2 hb3
    obtain ⟨k3, hk3, hk4⟩ := hcl hyc
    rw [← hc2] at hk4
    obtain ⟨kq, hkq, hkl, hkc⟩ : ∃ k : Nat, zfst (fun k => decide (μ4 141 (600 * (p + 1) + k) = (c2 : Int))) 0 (μ4 142 (p + 1)).toNat = (k : Int) ∧ k < (μ4 142 (p + 1)).toNat ∧ μ4 141 (600 * (p + 1) + k) = (c2 : Int) := by
      rcases zin_of (μ := μ4) (p := p + 1) (c := (c2 : Int)) with ⟨h, h5⟩ | h
      · exact absurd (by rw [h141]; exact hk4) (h5 k3 (by rw [h142]; exact hk3))
      · exact h
    have hval : μ4 143 (600 * (p + 1) + kq) = zfw D (zN D - (p + 1)) (p + 1) (zls (zkfc D c) (zbx D (zord D p) ch)) := by
      rw [h143, hFw kq (by rw [h142] at hkl; exact hkl) c2 (by rw [h141] at hkc; exact hkc)]
      refine zfw_congr _ _ _ _ (fun x hx => ?_)
      rw [hc2, hb1, Int.toNat_natCast]; exact hnext.2 x hx
    have hwb := zfw_b D (zN D - (p + 1)) (p + 1) (zls (zkfc D c) (zbx D (zord D p) ch)) (by omega)
    have hpb := zpc_b ch
    refine zY.aload_n hO dX11_fewestBy_17 rfl ?_
    refine zY.getR zfl_X11_55 (by decide : 127 < 150) rfl rfl hO dX11_fewestBy_18 ?_
    refine zY.sipush hO dX11_fewestBy_21 (by decide) ?_
    refine zY.iload_n hO dX11_fewestBy_24 rfl ?_
    refine zY.iconst hO dX11_fewestBy_25 ?_
    refine zY.iadd hO dX11_fewestBy_26 ?_
    refine zY.imul hO dX11_fewestBy_27 ?_
    refine zY.aload_n hO dX11_fewestBy_28 rfl ?_
    refine zY.iload_n hO dX11_fewestBy_29 rfl ?_
    refine zY.iconst hO dX11_fewestBy_30 ?_
    refine zY.iadd hO dX11_fewestBy_31 ?_
    refine zY.iload hO dX11_fewestBy_32 rfl ?_
    refine zY.as2 (b := ((p + 1 : Nat) : Int)) (by omega) ?_
    refine zY.callV2iD (ct_X11_numberOf (p := p + 1) (by omega) hB4.1 (by omega) (zBr_r hB4) hnr) (by decide) zcal_X11_numberOf zml_X11_211 (by decide : 127 < 150) rfl rfl (Nat.le_of_ble_eq_true rfl) rfl ⟨Nat.zero_le _, Nat.zero_le _⟩ hO dX11_fewestBy_34 ?_
    refine zY.as hkq ?_
    refine zY.iadd hO dX11_fewestBy_37 ?_
    refine zY.iald (600 * (p + 1) + kq) (by omega) (by omega) (by decide) (by decide : 143 < 150) rfl hO dX11_fewestBy_38 ?_
    refine zY.as hval ?_
    refine zY.istore5 (zc1_I _) hO dX11_fewestBy_39 ?_
    refine zY.iload hO dX11_fewestBy_41 rfl ?_
    refine zY.if_ge (tgt := 51) ⟨by omega, by omega⟩ hO dX11_fewestBy_43 (by decide) (fun c43 => ?_) (fun c43 => ?_)
    ·
      refine zY.iload hO dX11_fewestBy_51 rfl ?_
      refine zY.iload_n hO dX11_fewestBy_53 rfl ?_
      refine zY.callS1iD (ct_X11_ones hch) (by decide) zcal_X11_ones zml_X11_196 (Nat.le_of_ble_eq_true rfl) rfl ⟨Nat.zero_le _, Nat.zero_le _⟩ hO dX11_fewestBy_54 ?_
      refine zY.iadd hO dX11_fewestBy_57 ?_
      exact zY.iret rfl ⟨_, rfl, ⟨by unfold zfwA; rw [if_pos ⟨hyc, c43⟩, Int.add_comm], n4q, h4q, hq5⟩⟩ hR hO dX11_fewestBy_58
    ·
      refine zY.bipush hO dX11_fewestBy_46 (by decide) ?_
      refine zY.goto (tgt := 58) hO dX11_fewestBy_48 (by decide) ?_
      exact zY.iret rfl ⟨_, rfl, ⟨by unfold zfwA; rw [if_neg (fun z => c43 z.2)], n4q, h4q, hq5⟩⟩ hR hO dX11_fewestBy_58
  ·
    have hnc : ¬ zcan D p ch (zkfc D c) := fun z => by rw [if_pos z] at hnx; omega
    refine zY.bipush hO dX11_fewestBy_14 (by decide) ?_
    exact zY.iret rfl ⟨_, rfl, ⟨by unfold zfwA; rw [if_neg (fun z => hnc z.1)], n4q, h4q, hq5⟩⟩ hR hO dX11_fewestBy_16

set_option maxRecDepth 100000 in
set_option maxHeartbeats 4000000 in
theorem ct_X11_findFewest {μ : zMem} {D : zBk} {K0 K1 : Option zBk} (hM : zMd D K0 K1 μ) (hOq : zOrd D) : Cv kX11_findFewest 7 150 zSX [zP 127] μ (fun μ' => zFG D μ μ' 0) := by
  refine Ct.of [some (zP 127), none, none, none, none, none] rfl (Nat.le_of_ble_eq_true rfl) (by decide +kernel) (fun Γ ad hO hR => ?_)
  have hn := zN_eq hM.1
  have hn6 := hOq.1.2
  refine zY.aload_n hO dX11_findFewest_0 rfl ?_
  refine zY.callV0v (ct_X11_findBroken hM hOq) (by decide) zcal_X11_findBroken zml_X11_214 (by decide : 127 < 150) rfl rfl (Nat.le_of_ble_eq_true rfl) rfl ⟨Nat.zero_le _, Nat.zero_le _⟩ hO dX11_findFewest_1 (fun μ1 hF => ?_)
  have hM1 := hF.1.md hM
  have hpm : μ1 127 11 = (zN D : Int) := hM1.2.2.1.2.trans hn.1
  obtain ⟨ml, hml⟩ : ∃ ml : Nat, μ1 142 (zN D) = (ml : Int) := ⟨(μ1 142 (zN D)).toNat, (Int.toNat_of_nonneg (hF.2.1 _ (Nat.le_refl _)).1).symm⟩
  have hmll := zBr_le (hF.2.1 _ (Nat.le_refl _)) hn6
  rw [hml, Int.toNat_natCast] at hmll
  refine zY.iconst hO dX11_findFewest_4 ?_
  refine zY.istore1 (zc1_P _) hO dX11_findFewest_5 ?_
  have L6 : ∀ k : Nat, k ≤ ml → ∀ μ2 : zMem, zScr μ μ2 → μ2 141 = μ1 141 → μ2 142 = μ1 142 → (∀ j, j < k → μ2 143 (600 * zN D + j) = 0) → zY Γ (150, zSX, ad, 0, 0) 6 [some (zP 127), some (zI (k : Int)), none, none, none, none] [] μ2 := by
    refine zdown (ml) (fun k hi_k ih6 => ?_)
    intro μ2 hs2 h141 h142 hJ
    have hpm2 : μ2 127 11 = (zN D : Int) := (hs2.md hM).2.2.1.2.trans hn.1
    refine zY.iload_n hO dX11_findFewest_6 rfl ?_
    refine zY.aload_n hO dX11_findFewest_7 rfl ?_
    refine zY.getR zfl_X11_52 (by decide : 127 < 150) rfl rfl hO dX11_findFewest_8 ?_
    refine zY.aload_n hO dX11_findFewest_11 rfl ?_
    refine zY.getI zfl_X11_93 (by decide : 127 < 150) rfl rfl hO dX11_findFewest_12 ?_
    refine zY.iald (zN D) hpm2 (by omega) (by decide) (by decide : 142 < 150) rfl hO dX11_findFewest_15 ?_
    refine zY.as (b := (ml : Int)) (by rw [h142]; exact hml) ?_
    refine zY.icmp_ge (tgt := 41) ⟨by omega, by omega⟩ ⟨by omega, by omega⟩ hO dX11_findFewest_16 (by decide) (fun c16 => ?_) (fun c16 => ?_)
    ·
      have hkm : k = ml := by omega
      have hG2 : zFG D μ μ2 (zN D) := ⟨hF.loc hs2 hn6 (fun j _ => by rw [h141]) (fun q _ => by rw [h142]), fun q a b k2 hk2 c hc => by
        have e : q = zN D := by omega
        subst e
        rw [h142, hml, Int.toNat_natCast] at hk2
        rw [hJ k2 (by omega), Nat.sub_self]; rfl⟩
      refine zY.aload_n hO dX11_findFewest_41 rfl ?_
      refine zY.getI zfl_X11_93 (by decide : 127 < 150) rfl rfl hO dX11_findFewest_42 ?_
      refine zY.as (b := (zN D : Int)) hpm2 ?_
      refine zY.iconst hO dX11_findFewest_45 ?_
      refine zY.isub hO dX11_findFewest_46 ?_
      refine zY.istore1 (zc1_P _) hO dX11_findFewest_47 ?_
      have L48 : ∀ t : Nat, t ≤ zN D → ∀ μ3 : zMem, zFG D μ μ3 (zN D - t) → zY Γ (150, zSX, ad, 0, 0) 48 [some (zP 127), some (zI ((zN D : Int) - 1 - (t : Int))), none, none, none, none] [] μ3 := by
        refine zdown (zN D) (fun t hi_t ih48 => ?_)
        intro μ3 hG3
        refine zY.iload_n hO dX11_findFewest_48 rfl ?_
        refine zY.if_lt (tgt := 151) ⟨by omega, by omega⟩ hO dX11_findFewest_49 (by decide) (fun c49 => ?_) (fun c49 => ?_)
        ·
          have ht : t = zN D := by omega
          subst ht
          exact zY.vret rfl ⟨rfl, (by rw [Nat.sub_self] at hG3; exact hG3)⟩ hR hO dX11_findFewest_151
        ·
          obtain ⟨p, hp⟩ : ∃ p : Nat, p = zN D - 1 - t := ⟨_, rfl⟩
          have hpn : p < zN D := by omega
          rw [show (zN D : Int) - 1 - (t : Int) = (p : Int) by omega]
          have hG3p : zFG D μ μ3 (p + 1) := by rw [show p + 1 = zN D - t by omega]; exact hG3
          obtain ⟨mi, hmi⟩ : ∃ mi : Nat, μ3 142 p = (mi : Int) := ⟨(μ3 142 p).toNat, (Int.toNat_of_nonneg (hG3.1.2.1 p (by omega)).1).symm⟩
          have hmil := zBr_le (hG3.1.2.1 p (by omega)) (by omega)
          rw [hmi, Int.toNat_natCast] at hmil
          refine zY.iconst hO dX11_findFewest_52 ?_
          refine zY.istore2 (zc1_I _) hO dX11_findFewest_53 ?_
          have L54 : ∀ k : Nat, k ≤ mi → ∀ μ4 : zMem, zFG D μ μ4 (p + 1) → μ4 142 p = (mi : Int) → (∀ j, j < k → ∀ c : Nat, μ4 141 (600 * p + j) = (c : Int) → μ4 143 (600 * p + j) = zfw D (zN D - p) p (zkfc D c)) → zY Γ (150, zSX, ad, 0, 0) 54 [some (zP 127), some (zI (p : Int)), some (zI (k : Int)), none, none, none] [] μ4 := by
            refine zdown (mi) (fun k hi_k ih54 => ?_)
            intro μ4 hG4 hm4 hJ4
            refine zY.iload_n hO dX11_findFewest_54 rfl ?_
            refine zY.aload_n hO dX11_findFewest_55 rfl ?_
            refine zY.getR zfl_X11_52 (by decide : 127 < 150) rfl rfl hO dX11_findFewest_56 ?_
            refine zY.iload_n hO dX11_findFewest_59 rfl ?_
            refine zY.iald (p) rfl (by omega) (by decide) (by decide : 142 < 150) rfl hO dX11_findFewest_60 ?_
            refine zY.as hm4 ?_
            refine zY.icmp_ge (tgt := 145) ⟨by omega, by omega⟩ ⟨by omega, by omega⟩ hO dX11_findFewest_61 (by decide) (fun c61 => ?_) (fun c61 => ?_)
            ·
              refine zY.iinc1 ((zN D : Int) - 1 - ((t + 1 : Nat) : Int)) (by omega) (zc1_P _) hO dX11_findFewest_145 ?_
              refine zY.goto (tgt := 48) hO dX11_findFewest_148 (by decide) ?_
              refine zY.none2 ?_
              refine ih48 (by omega) μ4 ⟨hG4.1, fun q a b k2 hk2 c2 hc2 => ?_⟩
              by_cases e : q = p
              · subst e
                rw [hm4, Int.toNat_natCast] at hk2
                exact hJ4 k2 (by omega) c2 hc2
              · exact hG4.2 q (by omega) b k2 hk2 c2 hc2
            ·
              have hki : k < mi := by omega
              obtain ⟨c, hck, hcv⟩ := (hG4.1.2.1 p (by omega)).2.1 k (by rw [hm4, Int.toNat_natCast]; exact hki)
              refine zY.bipush hO dX11_findFewest_64 (by decide) ?_
              refine zY.istore3 (zc1_I _) hO dX11_findFewest_66 ?_
              refine zY.iconst hO dX11_findFewest_67 ?_
              refine zY.istore4 (zc1_I _) hO dX11_findFewest_68 ?_
              have L70 : ∀ cq : Nat, cq ≤ 64 → ∀ (bst : Int) (μ5 : zMem), bst = zbmn (zfwA D (zfw D (zN D - (p + 1)) (p + 1)) p (zkfc D c)) cq → zFG D μ μ5 (p + 1) → μ5 142 p = (mi : Int) → (∀ j, j < k → ∀ c : Nat, μ5 141 (600 * p + j) = (c : Int) → μ5 143 (600 * p + j) = zfw D (zN D - p) p (zkfc D c)) → μ5 141 (600 * p + k) = (c : Int) → zY Γ (150, zSX, ad, 0, 0) 70 [some (zP 127), some (zI (p : Int)), some (zI (k : Int)), some (zI bst), some (zI (cq : Int)), none] [] μ5 := by
                refine zdown (64) (fun cq hi_cq ih70 => ?_)
                intro bst μ5 hbst hG5 hm5 hJ5 hc5
                refine zY.iload hO dX11_findFewest_70 rfl ?_
                refine zY.bipush hO dX11_findFewest_72 (by decide) ?_
                refine zY.icmp_ge (tgt := 126) ⟨by omega, by omega⟩ ⟨by omega, by omega⟩ hO dX11_findFewest_74 (by decide) (fun c74 => ?_) (fun c74 => ?_)
                ·
                  have hcq : cq = 64 := by omega
                  rw [hcq] at hbst
                  refine zY.aload_n hO dX11_findFewest_126 rfl ?_
                  refine zY.getR zfl_X11_55 (by decide : 127 < 150) rfl rfl hO dX11_findFewest_127 ?_
                  refine zY.sipush hO dX11_findFewest_130 (by decide) ?_
                  refine zY.iload_n hO dX11_findFewest_133 rfl ?_
                  refine zY.imul hO dX11_findFewest_134 ?_
                  refine zY.iload_n hO dX11_findFewest_135 rfl ?_
                  refine zY.iadd hO dX11_findFewest_136 ?_
                  refine zY.iload_n hO dX11_findFewest_137 rfl ?_
                  refine zY.iast (600 * p + k) (by omega) (by omega) (by decide) (by decide : 143 < 150) rfl hO dX11_findFewest_138 ?_
                  refine zY.iinc2 _ rfl (zc1_I _) hO dX11_findFewest_139 ?_
                  refine zY.goto (tgt := 54) hO dX11_findFewest_142 (by decide) ?_
                  refine zY.none3 ?_
                  refine zY.none4 ?_
                  have hnk : zN D - p = zN D - (p + 1) + 1 := by omega
                  refine ih54 (by omega) _ ?_ (by rw [zwr_ne (by decide)]; exact hm5) (fun j hj c2 hc2 => ?_)
                  · refine ⟨hG5.1.loc (hG5.1.1.wr (by decide) (by decide)) hn6 (fun j _ => by rw [zwr_ne (by decide)]) (fun q _ => by rw [zwr_ne (by decide)]), fun q a b k2 hk2 c2 hc2 => ?_⟩
                    rw [zwr_ne (by decide)] at hk2
                    rw [zwr_ne (by decide)] at hc2
                    have hl := zBr_le (hG5.1.2.1 q b) (by omega)
                    rw [zwr_nk (by omega)]
                    exact hG5.2 q a b k2 hk2 c2 hc2
                  · rw [zwr_ne (by decide)] at hc2
                    by_cases e : j = k
                    · subst e
                      have e2 : c2 = c := by omega
                      subst e2
                      rw [zwr_at, hbst, hnk]; rfl
                    · rw [zwr_nk (by omega)]; exact hJ5 j (by omega) c2 hc2
                ·
                  refine zY.aload_n hO dX11_findFewest_77 rfl ?_
                  refine zY.iload_n hO dX11_findFewest_78 rfl ?_
                  refine zY.aload_n hO dX11_findFewest_79 rfl ?_
                  refine zY.getR zfl_X11_49 (by decide : 127 < 150) rfl rfl hO dX11_findFewest_80 ?_
                  refine zY.sipush hO dX11_findFewest_83 (by decide) ?_
                  refine zY.iload_n hO dX11_findFewest_86 rfl ?_
                  refine zY.imul hO dX11_findFewest_87 ?_
                  refine zY.iload_n hO dX11_findFewest_88 rfl ?_
                  refine zY.iadd hO dX11_findFewest_89 ?_
                  refine zY.iald (600 * p + k) (by omega) (by omega) (by decide) (by decide : 141 < 150) rfl hO dX11_findFewest_90 ?_
                  refine zY.as hc5 ?_
                  refine zY.iload hO dX11_findFewest_91 rfl ?_
                  refine zY.callV3i (ct_X11_fewestBy (hG5.1.1.md hM) hOq hpn hcv (ch := cq) (by omega) (hG5.1.2.2.1 p hpn k (by rw [hm5, Int.toNat_natCast]; exact hki) c hc5 cq (by omega)) (hG5.1.2.1 (p + 1) (by omega)) (fun k2 hk2 c2 hc2 => hG5.2 (p + 1) (Nat.le_refl _) (by omega) k2 hk2 c2 hc2)) (by decide) zcal_X11_fewestBy zml_X11_217 (by decide : 127 < 150) rfl rfl (Nat.le_of_ble_eq_true rfl) rfl ⟨Nat.zero_le _, Nat.zero_le _⟩ hO dX11_findFewest_93 (fun ax μ6 hq6 => ?_)
                  obtain ⟨hax, n6q, h6q, hq7⟩ := hq6
                  have h141 : μ6 141 = μ5 141 := by rw [hq7, zrow_ne (by decide), zrow_ne (by decide)]
                  have h142 : μ6 142 = μ5 142 := by rw [hq7, zrow_ne (by decide), zrow_ne (by decide)]
                  have h143 : μ6 143 = μ5 143 := by rw [hq7, zrow_ne (by decide), zrow_ne (by decide)]
                  have hs6 : zScr μ μ6 := by rw [hq7]; exact (hG5.1.1.row (by decide) (by decide)).row (by decide) (by decide)
                  have hG6 := hG5.mv hn6 hs6 h141 h142 h143
                  have hab := zfwA_b D (k := zN D - (p + 1)) (p := p) (f := zkfc D c) (by omega) cq
                  rw [← hax] at hab
                  have hbb : bst = -6 ∨ (0 ≤ bst ∧ bst ≤ 100) := by
                    have h1 := zbmn_ps (zfwA D (zfw D (zN D - (p + 1)) (p + 1)) p (zkfc D c)) cq
                    rw [← hbst] at h1
                    rcases (by omega : bst < 0 ∨ 0 ≤ bst) with h | h
                    · exact Or.inl (h1.1 h).1
                    · refine Or.inr ⟨h, ?_⟩
                      rw [← (h1.2 h).2.1]; exact (zfwA_b D (k := zN D - (p + 1)) (p := p) (f := zkfc D c) (by omega) _).1
                  refine zY.istore5 (zc1_I _) hO dX11_findFewest_96 ?_
                  refine zY.iload hO dX11_findFewest_98 rfl ?_
                  refine zY.if_lt (tgt := 118) ⟨by omega, by omega⟩ hO dX11_findFewest_100 (by decide) (fun c100 => ?_) (fun c100 => ?_)
                  ·
                    refine zY.iload_n hO dX11_findFewest_118 rfl ?_
                    refine zY.istore3 (zc1_I _) hO dX11_findFewest_119 ?_
                    refine zY.iinc4 _ rfl (zc1_I _) hO dX11_findFewest_120 ?_
                    refine zY.goto (tgt := 70) hO dX11_findFewest_123 (by decide) ?_
                    refine zY.none5 ?_
                    refine ih70 (by omega) bst μ6 ?_ hG6 (by rw [h142]; exact hm5) (fun j hj c2 hc2 => by rw [h143]; rw [h141] at hc2; exact hJ5 j hj c2 hc2) (by rw [h141]; exact hc5)
                    simp only [zbmn]
                    rw [← hax, ← hbst, if_neg (fun z => by omega)]
                  ·
                    refine zY.iload_n hO dX11_findFewest_103 rfl ?_
                    refine zY.if_lt (tgt := 113) ⟨by omega, by omega⟩ hO dX11_findFewest_104 (by decide) (fun c104 => ?_) (fun c104 => ?_)
                    ·
                      refine zY.iload hO dX11_findFewest_113 rfl ?_
                      refine zY.goto (tgt := 119) hO dX11_findFewest_115 (by decide) ?_
                      refine zY.istore3 (zc1_I _) hO dX11_findFewest_119 ?_
                      refine zY.iinc4 _ rfl (zc1_I _) hO dX11_findFewest_120 ?_
                      refine zY.goto (tgt := 70) hO dX11_findFewest_123 (by decide) ?_
                      refine zY.none5 ?_
                      refine ih70 (by omega) ax μ6 ?_ hG6 (by rw [h142]; exact hm5) (fun j hj c2 hc2 => by rw [h143]; rw [h141] at hc2; exact hJ5 j hj c2 hc2) (by rw [h141]; exact hc5)
                      simp only [zbmn]
                      rw [← hax, ← hbst, if_pos ⟨by omega, by omega⟩]
                    ·
                      refine zY.iload hO dX11_findFewest_107 rfl ?_
                      refine zY.iload_n hO dX11_findFewest_109 rfl ?_
                      refine zY.icmp_ge (tgt := 118) ⟨by omega, by omega⟩ ⟨by omega, by omega⟩ hO dX11_findFewest_110 (by decide) (fun c110 => ?_) (fun c110 => ?_)
                      ·
                        refine zY.iload_n hO dX11_findFewest_118 rfl ?_
                        refine zY.istore3 (zc1_I _) hO dX11_findFewest_119 ?_
                        refine zY.iinc4 _ rfl (zc1_I _) hO dX11_findFewest_120 ?_
                        refine zY.goto (tgt := 70) hO dX11_findFewest_123 (by decide) ?_
                        refine zY.none5 ?_
                        refine ih70 (by omega) bst μ6 ?_ hG6 (by rw [h142]; exact hm5) (fun j hj c2 hc2 => by rw [h143]; rw [h141] at hc2; exact hJ5 j hj c2 hc2) (by rw [h141]; exact hc5)
                        simp only [zbmn]
                        rw [← hax, ← hbst, if_neg (fun z => by omega)]
                      ·
                        refine zY.iload hO dX11_findFewest_113 rfl ?_
                        refine zY.goto (tgt := 119) hO dX11_findFewest_115 (by decide) ?_
                        refine zY.istore3 (zc1_I _) hO dX11_findFewest_119 ?_
                        refine zY.iinc4 _ rfl (zc1_I _) hO dX11_findFewest_120 ?_
                        refine zY.goto (tgt := 70) hO dX11_findFewest_123 (by decide) ?_
                        refine zY.none5 ?_
                        refine ih70 (by omega) ax μ6 ?_ hG6 (by rw [h142]; exact hm5) (fun j hj c2 hc2 => by rw [h143]; rw [h141] at hc2; exact hJ5 j hj c2 hc2) (by rw [h141]; exact hc5)
                        simp only [zbmn]
                        rw [← hax, ← hbst, if_pos ⟨by omega, by omega⟩]
              exact L70 0 (by omega) (-6) μ4 rfl hG4 hm4 hJ4 hck
          exact L54 0 (by omega) μ3 hG3p hmi (fun j h => by omega)
      have hin := L48 0 (by omega) μ2 hG2
      rw [show (zN D : Int) - 1 - ((0 : Nat) : Int) = (zN D : Int) - 1 by omega] at hin
      exact hin
    ·
      refine zY.aload_n hO dX11_findFewest_19 rfl ?_
      refine zY.getR zfl_X11_55 (by decide : 127 < 150) rfl rfl hO dX11_findFewest_20 ?_
      refine zY.sipush hO dX11_findFewest_23 (by decide) ?_
      refine zY.aload_n hO dX11_findFewest_26 rfl ?_
      refine zY.getI zfl_X11_93 (by decide : 127 < 150) rfl rfl hO dX11_findFewest_27 ?_
      refine zY.as (b := (zN D : Int)) hpm2 ?_
      refine zY.imul hO dX11_findFewest_30 ?_
      refine zY.iload_n hO dX11_findFewest_31 rfl ?_
      refine zY.iadd hO dX11_findFewest_32 ?_
      refine zY.iconst hO dX11_findFewest_33 ?_
      refine zY.iast (600 * zN D + k) (by omega) (by omega) (by decide) (by decide : 143 < 150) rfl hO dX11_findFewest_34 ?_
      refine zY.iinc1 _ rfl (zc1_P _) hO dX11_findFewest_35 ?_
      refine zY.goto (tgt := 6) hO dX11_findFewest_38 (by decide) ?_
      exact ih6 (by omega) _ (hs2.wr (by decide) (by decide)) (by rw [zwr_ne (by decide)]; exact h141) (by rw [zwr_ne (by decide)]; exact h142) (fun j hj => by
        by_cases e : j = k
        · subst e; exact zwr_at
        · rw [zwr_nk (by omega)]; exact hJ j (by omega))
  exact L6 0 (by omega) μ1 hF.1 rfl rfl (fun j h => by omega)

set_option maxRecDepth 100000 in
set_option maxHeartbeats 4000000 in
theorem ct_X11_changes {μ : zMem} {D : zBk} {K0 K1 : Option zBk} (hM : zMd D K0 K1 μ) {x : Int} (hx : zr x) : Ci kX11_changes 8 150 zSX [zP 127, zI x] μ (fun a μ' => a = zA_changes D x ∧ zScr μ μ') := by
  refine Ct.of [some (zP 127), some (zI x), none, none, none, none] rfl (Nat.le_of_ble_eq_true rfl) (by decide +kernel) (fun Γ ad hO hR => ?_)
  have hn := zN_eq hM.1
  have hpm : μ 127 11 = (zN D : Int) := hM.2.2.1.2.trans hn.1
  refine zY.aload_n hO dX11_changes_0 rfl ?_
  refine zY.iconst hO dX11_changes_1 ?_
  refine zY.callV1iD (ct_X11_fault hM ⟨by omega, by omega⟩) (by decide) zcal_X11_fault zml_X11_116 (by decide : 127 < 150) rfl rfl (Nat.le_of_ble_eq_true rfl) rfl ⟨Nat.zero_le _, Nat.zero_le _⟩ hO dX11_changes_2 ?_
  have hfn := zflt_n hM.1 2 (by omega) (by omega)
  refine zY.if_lt (tgt := 11) (zflt_b hM.1 2) hO dX11_changes_5 (by decide) (fun c5 => ?_) (fun c5 => ?_)
  ·
    have hz2 : zflt D 2 = -6 := by omega
    have hOq := zOrd_of hz2
    have hn6 := hOq.1
    have hA := zA_chg x hOq
    rw [if_pos hz2] at hA
    refine zY.aload_n hO dX11_changes_11 rfl ?_
    refine zY.callV0v (ct_X11_findFewest hM hOq) (by decide) zcal_X11_findFewest zml_X11_220 (by decide : 127 < 150) rfl rfl (Nat.le_of_ble_eq_true rfl) rfl ⟨Nat.zero_le _, Nat.zero_le _⟩ hO dX11_changes_12 (fun μ1 hG => ?_)
    have hf0 : μ1 143 0 = zfw D (zN D) 0 (D 5) := by
      have h1 := hG.2 0 (Nat.le_refl _) (by omega) 0 (by rw [hG.1.2.2.2.1]; decide) 0 hG.1.2.2.2.2
      rw [Nat.sub_zero] at h1
      have h2 : μ1 143 0 = zfw D (zN D) 0 (zkfc D 0) := h1
      rw [h2]
      refine zfw_congr _ _ _ _ (fun x hx => ?_)
      have h3 : zkdg 0 x = 0 := (by decide : ∀ x, x < 6 → zkdg 0 x = 0) x hx
      unfold zkfc; rw [h3]; omega
    have hwb := zfw_b D (zN D) 0 (D 5) (by omega)
    have hs1 := hG.1.1
    have hpm1 : μ1 127 11 = (zN D : Int) := (hs1.md hM).2.2.1.2.trans hn.1
    refine zY.aload_n hO dX11_changes_15 rfl ?_
    refine zY.getR zfl_X11_55 (by decide : 127 < 150) rfl rfl hO dX11_changes_16 ?_
    refine zY.iconst hO dX11_changes_19 ?_
    refine zY.iald (0) rfl (by omega) (by decide) (by decide : 143 < 150) rfl hO dX11_changes_20 ?_
    refine zY.as hf0 ?_
    refine zY.if_ge (tgt := 27) ⟨by omega, by omega⟩ hO dX11_changes_21 (by decide) (fun c21 => ?_) (fun c21 => ?_)
    ·
      refine zY.iload_n hO dX11_changes_27 rfl ?_
      refine zY.iconst hO dX11_changes_28 ?_
      refine zY.icmp_ne (tgt := 39) hx ⟨by omega, by omega⟩ hO dX11_changes_29 (by decide) (fun c29 => ?_) (fun c29 => ?_)
      ·
        refine zY.iload_n hO dX11_changes_39 rfl ?_
        refine zY.i2l hx hO dX11_changes_40 ?_
        refine zY.lconst0 hO dX11_changes_41 ?_
        refine zY.aload_n hO dX11_changes_42 rfl ?_
        refine zY.getI zfl_X11_93 (by decide : 127 < 150) rfl rfl hO dX11_changes_43 ?_
        refine zY.as (b := (zN D : Int)) hpm1 ?_
        refine zY.iconst hO dX11_changes_46 ?_
        refine zY.isub hO dX11_changes_47 ?_
        refine zY.i2l ⟨by omega, by omega⟩ hO dX11_changes_48 ?_
        refine zY.callS3iD (ct_X11_in (a := x) (b := 0) (c := (zN D : Int) - 1) ⟨by omega, by omega⟩ ⟨by omega, by omega⟩ ⟨by omega, by omega⟩) (by decide) zcal_X11_in zml_X11_83 (Nat.le_of_ble_eq_true rfl) rfl ⟨Nat.zero_le _, Nat.zero_le _⟩ hO dX11_changes_49 ?_
        refine zY.if_ne (tgt := 58) zr_b hO dX11_changes_52 (by decide) (fun c52 => ?_) (fun c52 => ?_)
        ·
          replace c52 := zb1.mp c52
          obtain ⟨iq, hiq⟩ : ∃ iq : Nat, x = (iq : Int) := ⟨x.toNat, by omega⟩
          subst hiq
          rw [if_pos (by omega), if_pos c21, if_neg (by omega), Int.toNat_natCast] at hA
          refine zY.iconst hO dX11_changes_58 ?_
          refine zY.istore2 (zc1_I _) hO dX11_changes_59 ?_
          refine zY.iconst hO dX11_changes_60 ?_
          refine zY.istore3 (zc1_I _) hO dX11_changes_61 ?_
          refine zY.iconst hO dX11_changes_62 ?_
          refine zY.istore4 (zc1_I _) hO dX11_changes_63 ?_
          have L65 : ∀ p : Nat, p ≤ iq + 1 → ∀ (c : Nat) (chq : Int) (μ2 : zMem), zFG D μ μ2 0 → zkv D p c → zIn μ2 p c → 0 ≤ zfw D (zN D - p) p (zkfc D c) → (p ≤ iq → zdgt D (zN D - p) p (zkfc D c) (iq - p) = (zdgt D (zN D) 0 (D 5) iq)) → (p = iq + 1 → chq = (zdgt D (zN D) 0 (D 5) iq)) → zY Γ (150, zSX, ad, 0, 0) 65 [some (zP 127), some (zI (iq : Int)), some (zI (c : Int)), some (zI chq), some (zI (p : Int)), none] [] μ2 := by
            refine zdown (iq + 1) (fun p hi_p ih65 => ?_)
            intro c chq μ2 hG2 hcv hin hwp hD1 hD2
            refine zY.iload hO dX11_changes_65 rfl ?_
            refine zY.iload_n hO dX11_changes_67 rfl ?_
            refine zY.icmp_gt (tgt := 128) ⟨by omega, by omega⟩ ⟨by omega, by omega⟩ hO dX11_changes_68 (by decide) (fun c68 => ?_) (fun c68 => ?_)
            ·
              refine zY.iload_n hO dX11_changes_128 rfl ?_
              exact zY.iret rfl ⟨_, rfl, ⟨by rw [hA]; exact hD2 (by omega), hG2.1.1⟩⟩ hR hO dX11_changes_129
            ·
              have hpn : p < zN D := by omega
              have hB2 := hG2.1.2.1 p (by omega)
              have hml2 := zBr_le hB2 (by omega)
              obtain ⟨kq, hkq, hkl, hkc⟩ : ∃ k : Nat, zfst (fun k => decide (μ2 141 (600 * p + k) = (c : Int))) 0 (μ2 142 p).toNat = (k : Int) ∧ k < (μ2 142 p).toNat ∧ μ2 141 (600 * p + k) = (c : Int) := by
                obtain ⟨k3, hk3, hk4⟩ := hin
                rcases zin_of (μ := μ2) (p := p) (c := (c : Int)) with ⟨h, h5⟩ | h
                · exact absurd hk4 (h5 k3 hk3)
                · exact h
              have hval := hG2.2 p (Nat.zero_le _) (by omega) kq hkl c hkc
              have hcl2 := hcv.1
              have hnk : zN D - p = zN D - (p + 1) + 1 := by omega
              have hwq : zfw D (zN D - p) p (zkfc D c) = zbmn (zfwA D (zfw D (zN D - (p + 1)) (p + 1)) p (zkfc D c)) 64 := by rw [hnk]; rfl
              have hps := (zbmn_ps (zfwA D (zfw D (zN D - (p + 1)) (p + 1)) p (zkfc D c)) 64).2 (by rw [← hwq]; exact hwp)
              obtain ⟨sq, hsq⟩ : ∃ sq : Nat, sq = zcsl (zfwA D (zfw D (zN D - (p + 1)) (p + 1)) p (zkfc D c)) 64 := ⟨_, rfl⟩
              rw [← hsq] at hps
              have hwl := zfw_b D (zN D - p) p (zkfc D c) (by omega)
              refine zY.aload_n hO dX11_changes_71 rfl ?_
              refine zY.getR zfl_X11_55 (by decide : 127 < 150) rfl rfl hO dX11_changes_72 ?_
              refine zY.sipush hO dX11_changes_75 (by decide) ?_
              refine zY.iload hO dX11_changes_78 rfl ?_
              refine zY.imul hO dX11_changes_80 ?_
              refine zY.aload_n hO dX11_changes_81 rfl ?_
              refine zY.iload hO dX11_changes_82 rfl ?_
              refine zY.iload_n hO dX11_changes_84 rfl ?_
              refine zY.callV2iD (ct_X11_numberOf (p := p) (by omega) hB2.1 (by omega) (zBr_r hB2) (c := (c : Int)) ⟨by omega, by omega⟩) (by decide) zcal_X11_numberOf zml_X11_211 (by decide : 127 < 150) rfl rfl (Nat.le_of_ble_eq_true rfl) rfl ⟨Nat.zero_le _, Nat.zero_le _⟩ hO dX11_changes_85 ?_
              refine zY.as hkq ?_
              refine zY.iadd hO dX11_changes_88 ?_
              refine zY.iald (600 * p + kq) (by omega) (by omega) (by decide) (by decide : 143 < 150) rfl hO dX11_changes_89 ?_
              refine zY.as (hval.trans hwq) ?_
              refine zY.istore5 (zc1_I _) hO dX11_changes_90 ?_
              refine zY.iconst hO dX11_changes_92 ?_
              refine zY.istore3 (zc1_I _) hO dX11_changes_93 ?_
              have L94 : ∀ cq : Nat, cq ≤ sq → ∀ μ3 : zMem, zFG D μ μ3 0 → zIn μ3 p c → zY Γ (150, zSX, ad, 0, 0) 94 [some (zP 127), some (zI (iq : Int)), some (zI (c : Int)), some (zI (cq : Int)), some (zI (p : Int)), some (zI (zbmn (zfwA D (zfw D (zN D - (p + 1)) (p + 1)) p (zkfc D c)) 64))] [] μ3 := by
                refine zdown (sq) (fun cq hi_cq ih94 => ?_)
                intro μ3 hG3 hin3
                obtain ⟨k3, hk3, hk4⟩ := hin3
                refine zY.aload_n hO dX11_changes_94 rfl ?_
                refine zY.iload hO dX11_changes_95 rfl ?_
                refine zY.iload_n hO dX11_changes_97 rfl ?_
                refine zY.iload_n hO dX11_changes_98 rfl ?_
                refine zY.callV3i (ct_X11_fewestBy (hG3.1.1.md hM) hOq hpn hcv (ch := cq) (by omega) (hG3.1.2.2.1 p hpn k3 hk3 c hk4 cq (by omega)) (hG3.1.2.1 (p + 1) (by omega)) (fun k2 hk2 c2 hc2 => hG3.2 (p + 1) (by omega) (by omega) k2 hk2 c2 hc2)) (by decide) zcal_X11_fewestBy zml_X11_217 (by decide : 127 < 150) rfl rfl (Nat.le_of_ble_eq_true rfl) rfl ⟨Nat.zero_le _, Nat.zero_le _⟩ hO dX11_changes_99 (fun ax μ6 hq6 => ?_)
                obtain ⟨hax, n6q, h6q, hq7⟩ := hq6
                have h141 : μ6 141 = μ3 141 := by rw [hq7, zrow_ne (by decide), zrow_ne (by decide)]
                have h142 : μ6 142 = μ3 142 := by rw [hq7, zrow_ne (by decide), zrow_ne (by decide)]
                have h143 : μ6 143 = μ3 143 := by rw [hq7, zrow_ne (by decide), zrow_ne (by decide)]
                have hs6 : zScr μ μ6 := by rw [hq7]; exact (hG3.1.1.row (by decide) (by decide)).row (by decide) (by decide)
                have hG6 := hG3.mv (by omega) hs6 h141 h142 h143
                have hab := zfwA_b D (k := zN D - (p + 1)) (p := p) (f := zkfc D c) (by omega) cq
                rw [← hax] at hab
                have hin6 : zIn μ6 p c := ⟨k3, by rw [h142]; exact hk3, by rw [h141]; exact hk4⟩
                refine zY.iload hO dX11_changes_102 rfl ?_
                refine zY.icmp_eq (tgt := 113) ⟨by omega, by omega⟩ ⟨by omega, by omega⟩ hO dX11_changes_104 (by decide) (fun c104 => ?_) (fun c104 => ?_)
                ·
                  have hcs : cq = sq := by
                    rcases Nat.lt_or_ge cq sq with h | h
                    · exact absurd (by rw [← hax]; exact c104) (hps.2.2.2 cq h)
                    · omega
                  subst hcs
                  have hyc : zcan D p cq (zkfc D c) ∧ 0 ≤ zfw D (zN D - (p + 1)) (p + 1) (zls (zkfc D c) (zbx D (zord D p) cq)) := by
                    by_cases z : zcan D p cq (zkfc D c) ∧ 0 ≤ zfw D (zN D - (p + 1)) (p + 1) (zls (zkfc D c) (zbx D (zord D p) cq))
                    · exact z
                    · have h1 : ax = -6 := by rw [hax]; unfold zfwA; rw [if_neg z]
                      omega
                  obtain ⟨bq, hb1, hb2, hb3, -⟩ := zcan_b hM.1 (hOq.2.1 p hpn).2.1 hyc.1
                  have hnext := zkv_next hcv (by omega) hb2 hb3
                  refine zY.aload_n hO dX11_changes_113 rfl ?_
                  refine zY.iload hO dX11_changes_114 rfl ?_
                  refine zY.iload_n hO dX11_changes_116 rfl ?_
                  refine zY.iload_n hO dX11_changes_117 rfl ?_
                  refine zY.callV3i (ct_X11_brokenBehind (hG6.1.1.md hM) hOq hpn hcv (ch := cq) (by omega)) (by decide) zcal_X11_brokenBehind zml_X11_208 (by decide : 127 < 150) rfl rfl (Nat.le_of_ble_eq_true rfl) rfl ⟨Nat.zero_le _, Nat.zero_le _⟩ hO dX11_changes_118 (fun nx μ7 hq8 => ?_)
                  obtain ⟨hnx, n8q, h8q, hq9⟩ := hq8
                  rw [if_pos hyc.1, hb1, Int.toNat_natCast] at hnx
                  subst hnx
                  have h141b : μ7 141 = μ6 141 := by rw [hq9, zrow_ne (by decide), zrow_ne (by decide)]
                  have h142b : μ7 142 = μ6 142 := by rw [hq9, zrow_ne (by decide), zrow_ne (by decide)]
                  have h143b : μ7 143 = μ6 143 := by rw [hq9, zrow_ne (by decide), zrow_ne (by decide)]
                  have hs7 : zScr μ μ7 := by rw [hq9]; exact (hs6.row (by decide) (by decide)).row (by decide) (by decide)
                  have hG7 := hG6.mv (by omega) hs7 h141b h142b h143b
                  refine zY.istore2 (zc1_I _) hO dX11_changes_121 ?_
                  refine zY.iinc4 _ rfl (zc1_I _) hO dX11_changes_122 ?_
                  refine zY.goto (tgt := 65) hO dX11_changes_125 (by decide) ?_
                  refine zY.none5 ?_
                  have hfz : ∀ x, x < 6 → zkfc D (c + zkpw bq) x = zls (zkfc D c) (zbx D (zord D p) cq) x := fun x hx => by rw [hb1]; exact hnext.2 x hx
                  have hch : zch1 D (zN D - (p + 1)) p (zkfc D c) = cq := hsq.symm
                  refine ih65 (by omega) (c + zkpw bq) (cq : Int) μ7 hG7 hnext.1 ?_ ?_ (fun hp => ?_) (fun hp => ?_)
                  · have h1 := hG7.1.2.2.1 p hpn k3 (by rw [h142b, h142]; exact hk3) c (by rw [h141b, h141]; exact hk4) cq (by omega) hyc.1
                    rw [hb1, Int.toNat_natCast] at h1; exact h1
                  · rw [zfw_congr _ _ _ _ hfz]; exact hyc.2
                  · have h1 := hD1 (by omega)
                    rw [hnk, show iq - p = (iq - (p + 1)) + 1 by omega] at h1
                    simp only [zdgt] at h1
                    rw [hch] at h1
                    rw [zdgt_congr _ _ _ _ _ hfz]; exact h1
                  · have h1 := hD1 (by omega)
                    rw [hnk, show iq - p = 0 by omega] at h1
                    simp only [zdgt] at h1
                    rw [hch] at h1
                    exact h1
                ·
                  have hlt : cq < sq := by
                    rcases Nat.lt_or_ge cq sq with h | h
                    · exact h
                    · have e : cq = sq := by omega
                      exact absurd (by rw [hax, e]; exact hps.2.1) c104
                  refine zY.iinc3 _ rfl (zc1_I _) hO dX11_changes_107 ?_
                  refine zY.goto (tgt := 94) hO dX11_changes_110 (by decide) ?_
                  exact ih94 hlt μ6 hG6 hin6
              exact L94 0 (by omega) μ2 hG2 hin
          have hfz : ∀ x, x < 6 → zkfc D 0 x = D 5 x := fun x hx => by
            have h3 : zkdg 0 x = 0 := (by decide : ∀ x, x < 6 → zkdg 0 x = 0) x hx
            unfold zkfc; rw [h3]; omega
          exact L65 0 (by omega) 0 0 μ1 hG (zkv_0 hM.1) ⟨0, by rw [hG.1.2.2.2.1]; decide, hG.1.2.2.2.2⟩ (by rw [Nat.sub_zero, zfw_congr _ _ _ _ hfz]; exact c21) (fun _ => by rw [Nat.sub_zero, Nat.sub_zero]; exact zdgt_congr _ _ _ _ _ hfz) (fun z => by omega)
        ·
          replace c52 := zb0.mp c52
          refine zY.bipush hO dX11_changes_55 (by decide) ?_
          exact zY.iret rfl ⟨_, rfl, ⟨by rw [hA, if_neg (by omega)], hs1⟩⟩ hR hO dX11_changes_57
      ·
        refine zY.aload_n hO dX11_changes_32 rfl ?_
        refine zY.getR zfl_X11_55 (by decide : 127 < 150) rfl rfl hO dX11_changes_33 ?_
        refine zY.iconst hO dX11_changes_36 ?_
        refine zY.iald (0) rfl (by omega) (by decide) (by decide : 143 < 150) rfl hO dX11_changes_37 ?_
        refine zY.as hf0 ?_
        exact zY.iret rfl ⟨_, rfl, ⟨by rw [hA, if_pos (by omega), if_pos c21, if_pos (by omega)], hs1⟩⟩ hR hO dX11_changes_38
    ·
      refine zY.bipush hO dX11_changes_24 (by decide) ?_
      exact zY.iret rfl ⟨_, rfl, ⟨by rw [hA]; by_cases z : -1 ≤ x ∧ x ≤ D 10 0 - 1; (· rw [if_pos z, if_neg c21]); (· rw [if_neg z]), hs1⟩⟩ hR hO dX11_changes_26
  ·
    refine zY.bipush hO dX11_changes_8 (by decide) ?_
    exact zY.iret rfl ⟨_, rfl, ⟨by unfold zA_changes; rw [if_neg (by omega)], zScr.rfl'⟩⟩ hR hO dX11_changes_10
