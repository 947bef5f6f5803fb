/-! the model: what it holds; its small methods -/
def zMS (D : zBk) (μ : zMem) : Prop :=
  (∀ t, 4 ≤ t → t ≤ 7 → ∀ s, s < 6 → μ (128 + t) s = D t s) ∧ (∀ t, 1 ≤ t → t ≤ 2 → ∀ w, w < 10 → μ (128 + t) w = D t w) ∧
  (∀ w, w < 10 → ∀ i : Nat, (i : Int) < D 1 w → μ 128 (5 * w + i) = D 0 (5 * w + i)) ∧ (∀ s, s < 6 → ∀ i : Nat, (i : Int) < D 4 s → μ 131 (6 * s + i) = D 3 (6 * s + i)) ∧ μ 127 8 = D 8 0 ∧ μ 127 9 = D 8 1
def zMP (D : zBk) (μ : zMem) : Prop := (∀ j, j < 14 → μ 136 j = D 9 j) ∧ μ 127 11 = D 10 0
/-- what is kept from b on -/
def zKp (b : Nat) (E : zBk) (f : Nat → Int) : Prop :=
  (∀ w, w < 10 → f (b + 52 + 2 * w) = E 1 w ∧ f (b + 53 + 2 * w) = E 2 w ∧ ∀ i : Nat, (i : Int) < E 1 w → f (b + 2 + (5 * w + i)) = E 0 (5 * w + i)) ∧
  (∀ s, s < 6 → f (b + 108 + 4 * s) = E 4 s ∧ f (b + 109 + 4 * s) = E 5 s ∧ f (b + 110 + 4 * s) = E 6 s ∧ f (b + 111 + 4 * s) = E 7 s ∧ ∀ i : Nat, (i : Int) < E 4 s → f (b + 72 + (6 * s + i)) = E 3 (6 * s + i)) ∧ f b = E 8 0 ∧ f (b + 1) = E 8 1
def zMI (nn : Nat) (K : Option zBk) (μ : zMem) : Prop := match K with
  | none => μ 149 nn = 0
  | some E => μ 149 nn = 1 ∧ zKp (160 * nn) E (μ 148) ∧ zWF E
def zMd (D : zBk) (K0 K1 : Option zBk) (μ : zMem) : Prop := zWF D ∧ zMS D μ ∧ zMP D μ ∧ zMI 0 K0 μ ∧ zMI 1 K1 μ
/-- only what the model works on is changed -/
def zScr (μ μ' : zMem) : Prop := (∀ q, (q ≤ 126 ∨ (128 ≤ q ∧ q ≤ 136) ∨ 148 ≤ q) → μ' q = μ q) ∧ ∀ j, (j < 14 ∨ (16 < j ∧ j < 28)) → μ' 127 j = μ 127 j
theorem zScr.rfl' {μ : zMem} : zScr μ μ := ⟨fun _ _ => rfl, fun _ _ => rfl⟩
theorem zScr.trans {μ μ1 μ2 : zMem} (h1 : zScr μ μ1) (h2 : zScr μ1 μ2) : zScr μ μ2 := ⟨fun q hq => (h2.1 q hq).trans (h1.1 q hq), fun j hj => (h2.2 j hj).trans (h1.2 j hj)⟩
theorem zScr.row {μ μ1 : zMem} {q : Nat} {f : Nat → Int} (h : zScr μ μ1) (h1 : 137 ≤ q) (h2 : q ≤ 147) : zScr μ (zrow μ1 q f) := ⟨fun q' hq => by rw [zrow_ne (by omega)]; exact h.1 q' hq, fun j hj => by rw [zrow_ne (by omega)]; exact h.2 j hj⟩
theorem zScr.wr {μ μ1 : zMem} {q k : Nat} {v : Int} (h : zScr μ μ1) (h1 : 137 ≤ q) (h2 : q ≤ 147) : zScr μ (zwr μ1 q k v) := ⟨fun q' hq => by rw [zwr_ne (by omega)]; exact h.1 q' hq, fun j hj => by rw [zwr_ne (by omega)]; exact h.2 j hj⟩
theorem zScr.fld {μ μ1 : zMem} {k : Nat} {v : Int} (h : zScr μ μ1) (h1 : 14 ≤ k) (h2 : k ≤ 16 ∨ 28 ≤ k) : zScr μ (zwr μ1 127 k v) := ⟨fun q' hq => by rw [zwr_ne (by omega)]; exact h.1 q' hq, fun j hj => by
  show (if 127 = 127 then (if j = k then v else μ1 127 j) else μ1 127 j) = _
  rw [if_pos rfl, if_neg (by omega)]
  exact h.2 j hj⟩
theorem zMI.keep {nn : Nat} {K : Option zBk} {μ μ' : zMem} (h : zMI nn K μ) (h1 : μ' 148 = μ 148) (h2 : μ' 149 = μ 149) : zMI nn K μ' := by
  unfold zMI at h ⊢
  rw [h1, h2]
  exact h
theorem zMS.keep {D : zBk} {μ μ' : zMem} (h : zMS D μ) (h1 : ∀ q, 128 ≤ q → q ≤ 135 → μ' q = μ q) (h2 : ∀ j, j = 8 ∨ j = 9 → μ' 127 j = μ 127 j) : zMS D μ' :=
  ⟨fun t a b s hs => by rw [h1 _ (by omega) (by omega)]; exact h.1 t a b s hs, fun t a b w hw => by rw [h1 _ (by omega) (by omega)]; exact h.2.1 t a b w hw,
   fun w hw i hi => by rw [h1 _ (by omega) (by omega)]; exact h.2.2.1 w hw i hi, fun s hs i hi => by rw [h1 _ (by omega) (by omega)]; exact h.2.2.2.1 s hs i hi, by rw [h2 8 (Or.inl rfl)]; exact h.2.2.2.2.1, by rw [h2 9 (Or.inr rfl)]; exact h.2.2.2.2.2⟩
theorem zScr.md {D : zBk} {K0 K1 : Option zBk} {μ μ' : zMem} (h : zScr μ μ') (hM : zMd D K0 K1 μ) : zMd D K0 K1 μ' :=
  ⟨hM.1, hM.2.1.keep (fun q a b => h.1 q (by omega)) (fun j hj => h.2 j (by omega)), ⟨fun j hj => by rw [h.1 136 (by omega)]; exact hM.2.2.1.1 j hj, by rw [h.2 11 (by omega)]; exact hM.2.2.1.2⟩,
   hM.2.2.2.1.keep (h.1 148 (by omega)) (h.1 149 (by omega)), hM.2.2.2.2.keep (h.1 148 (by omega)) (h.1 149 (by omega))⟩
theorem zMd_set {D : zBk} {K0 K1 : Option zBk} {μ : zMem} {t k : Nat} {v : Int} (hM : zMd D K0 K1 μ) (hW : zWF (zset D t k v)) (hc : (t = 2 ∧ k < 10) ∨ (t = 4 ∧ v = 0 ∧ k < 6) ∨ (5 ≤ t ∧ t ≤ 7 ∧ k < 6)) : zMd (zset D t k v) K0 K1 (zwr μ (128 + t) k v) := by
  obtain ⟨-, hS, hP, hI0, hI1⟩ := hM
  have hz : ∀ t2 k2, ¬ (t2 = t ∧ k2 = k) → zset D t k v t2 k2 = D t2 k2 := fun t2 k2 h => by simp only [zset]; rw [if_neg h]
  have hg : ∀ t2 k2, μ (128 + t2) k2 = D t2 k2 → zwr μ (128 + t) k v (128 + t2) k2 = zset D t k v t2 k2 := fun t2 k2 h => by
    simp only [zwr, zset]
    by_cases e1 : t2 = t
    · subst e1
      by_cases e2 : k2 = k
      · subst e2; simp
      · simp [e2, h]
    · rw [if_neg (by omega), if_neg (fun z => e1 z.1)]; exact h
  refine ⟨hW, ⟨fun t2 a b s hs => hg t2 s (hS.1 t2 a b s hs), fun t2 a b w hw => hg t2 w (hS.2.1 t2 a b w hw), fun w hw i hi => ?_, fun s hs i hi => ?_, ?_, ?_⟩, ⟨fun j hj => ?_, ?_⟩, hI0.keep (zwr_ne (by omega)) (zwr_ne (by omega)), hI1.keep (zwr_ne (by omega)) (zwr_ne (by omega))⟩
  · rw [hz 1 w (by omega)] at hi
    rw [hz 0 _ (by omega), zwr_ne (by omega)]
    exact hS.2.2.1 w hw i hi
  · rw [hz 3 _ (by omega), zwr_ne (by omega)]
    refine hS.2.2.2.1 s hs i ?_
    by_cases e : 4 = t ∧ s = k
    · have h0 : zset D t k v 4 s = v := by simp only [zset]; rw [if_pos e]
      rw [h0] at hi
      omega
    · rw [hz 4 s e] at hi
      exact hi
  · rw [hz 8 0 (by omega), zwr_ne (by omega)]; exact hS.2.2.2.2.1
  · rw [hz 8 1 (by omega), zwr_ne (by omega)]; exact hS.2.2.2.2.2
  · rw [hz 9 j (by omega), zwr_ne (by omega)]; exact hP.1 j hj
  · rw [hz 10 0 (by omega), zwr_ne (by omega)]; exact hP.2
theorem zMd_fld {D : zBk} {K0 K1 : Option zBk} {μ : zMem} {k : Nat} {v : Int} (hM : zMd D K0 K1 μ) (hW : zWF (zset D 8 k v)) (hk : k < 2) : zMd (zset D 8 k v) K0 K1 (zwr μ 127 (8 + k) v) := by
  obtain ⟨-, hS, hP, hI0, hI1⟩ := hM
  have hz : ∀ t2 k2, ¬ (t2 = 8 ∧ k2 = k) → zset D 8 k v t2 k2 = D t2 k2 := fun t2 k2 h => by simp only [zset]; rw [if_neg h]
  have hg : ∀ k2, μ 127 (8 + k2) = D 8 k2 → zwr μ 127 (8 + k) v 127 (8 + k2) = zset D 8 k v 8 k2 := fun k2 h => by
    simp only [zwr, zset]
    by_cases e2 : k2 = k
    · subst e2; simp
    · rw [if_pos trivial, if_neg (by omega), if_neg (by omega)]; exact h
  refine ⟨hW, ⟨fun t2 a b s hs => ?_, fun t2 a b w hw => ?_, fun w hw i hi => ?_, fun s hs i hi => ?_, hg 0 hS.2.2.2.2.1, hg 1 hS.2.2.2.2.2⟩, ⟨fun j hj => ?_, ?_⟩, hI0.keep (zwr_ne (by omega)) (zwr_ne (by omega)), hI1.keep (zwr_ne (by omega)) (zwr_ne (by omega))⟩
  · rw [hz t2 s (by omega), zwr_ne (by omega)]; exact hS.1 t2 a b s hs
  · rw [hz t2 w (by omega), zwr_ne (by omega)]; exact hS.2.1 t2 a b w hw
  · rw [hz 1 w (by omega)] at hi
    rw [hz 0 _ (by omega), zwr_ne (by omega)]
    exact hS.2.2.1 w hw i hi
  · rw [hz 4 s (by omega)] at hi
    rw [hz 3 _ (by omega), zwr_ne (by omega)]
    exact hS.2.2.2.1 s hs i hi
  · rw [hz 9 j (by omega), zwr_ne (by omega)]; exact hP.1 j hj
  · rw [hz 10 0 (by omega)]
    show (if 127 = 127 then (if 11 = 8 + k then v else μ 127 11) else μ 127 11) = _
    rw [if_pos rfl, if_neg (by omega)]
    exact hP.2
theorem zMd_say {D : zBk} {K0 K1 : Option zBk} {μ : zMem} {v : Int} (hM : zMd D K0 K1 μ) (hW : zWF (zset (zset D 9 (zN D) v) 10 0 (D 10 0 + 1))) : zMd (zset (zset D 9 (zN D) v) 10 0 (D 10 0 + 1)) K0 K1 (zwr (zwr μ 136 (zN D) v) 127 11 ((zN D : Int) + 1)) := by
  obtain ⟨hW0, hS, hP, hI0, hI1⟩ := hM
  have hn := zN_eq hW0
  have hz : ∀ t2 k2, t2 ≤ 8 → zset (zset D 9 (zN D) v) 10 0 (D 10 0 + 1) t2 k2 = D t2 k2 := fun t2 k2 h => by simp only [zset]; rw [if_neg (by omega), if_neg (by omega)]
  have hr : ∀ q, q ≠ 136 → q ≠ 127 → zwr (zwr μ 136 (zN D) v) 127 11 ((zN D : Int) + 1) q = μ q := fun q h1 h2 => by rw [zwr_ne h2, zwr_ne h1]
  have hf : ∀ j, j ≠ 11 → zwr (zwr μ 136 (zN D) v) 127 11 ((zN D : Int) + 1) 127 j = μ 127 j := fun j h => by simp [zwr, h]
  refine ⟨hW, ⟨fun t2 a b s hs => ?_, fun t2 a b w hw => ?_, fun w hw i hi => ?_, fun s hs i hi => ?_, ?_, ?_⟩, ⟨fun j hj => ?_, ?_⟩, hI0.keep (hr _ (by omega) (by omega)) (hr _ (by omega) (by omega)), hI1.keep (hr _ (by omega) (by omega)) (hr _ (by omega) (by omega))⟩
  · rw [hz t2 s (by omega), hr _ (by omega) (by omega)]; exact hS.1 t2 a b s hs
  · rw [hz t2 w (by omega), hr _ (by omega) (by omega)]; exact hS.2.1 t2 a b w hw
  · rw [hz 1 w (by omega)] at hi
    rw [hz 0 _ (by omega), hr _ (by omega) (by omega)]
    exact hS.2.2.1 w hw i hi
  · rw [hz 4 s (by omega)] at hi
    rw [hz 3 _ (by omega), hr _ (by omega) (by omega)]
    exact hS.2.2.2.1 s hs i hi
  · rw [hz 8 0 (by omega), hf 8 (by omega)]; exact hS.2.2.2.2.1
  · rw [hz 8 1 (by omega), hf 9 (by omega)]; exact hS.2.2.2.2.2
  · rw [zwr_ne (by omega)]
    by_cases e : j = zN D
    · subst e; simp [zset, zwr]
    · simp [zset, zwr, e]; exact hP.1 j hj
  · simp [zset, zwr]
    omega
theorem zMd_wipe {D : zBk} {K0 K1 : Option zBk} {μ : zMem} (hM : zMd D K0 K1 μ) : zMd (zset D 10 0 0) K0 K1 (zwr μ 127 11 0) := by
  obtain ⟨hW0, hS, hP, hI0, hI1⟩ := hM
  have hz : ∀ t2 k2, t2 ≠ 10 → zset D 10 0 0 t2 k2 = D t2 k2 := fun t2 k2 h => by simp only [zset]; rw [if_neg (by omega)]
  have hf : ∀ j, j ≠ 11 → zwr μ 127 11 0 127 j = μ 127 j := fun j h => by simp [zwr, h]
  refine ⟨zWF_set10 hW0 ⟨by omega, by omega⟩, ⟨fun t2 a b s hs => ?_, fun t2 a b w hw => ?_, fun w hw i hi => ?_, fun s hs i hi => ?_, ?_, ?_⟩, ⟨fun j hj => ?_, ?_⟩, hI0.keep (zwr_ne (by omega)) (zwr_ne (by omega)), hI1.keep (zwr_ne (by omega)) (zwr_ne (by omega))⟩
  · rw [hz t2 s (by omega), zwr_ne (by omega)]; exact hS.1 t2 a b s hs
  · rw [hz t2 w (by omega), zwr_ne (by omega)]; exact hS.2.1 t2 a b w hw
  · rw [hz 1 w (by omega)] at hi
    rw [hz 0 _ (by omega), zwr_ne (by omega)]
    exact hS.2.2.1 w hw i hi
  · rw [hz 4 s (by omega)] at hi
    rw [hz 3 _ (by omega), zwr_ne (by omega)]
    exact hS.2.2.2.1 s hs i hi
  · rw [hz 8 0 (by omega), hf 8 (by omega)]; exact hS.2.2.2.2.1
  · rw [hz 8 1 (by omega), hf 9 (by omega)]; exact hS.2.2.2.2.2
  · rw [hz 9 j (by omega), zwr_ne (by omega)]; exact hP.1 j hj
  · simp [zset, zwr]
theorem zlc_lt {a b : Int} : (if b < a then (1 : Int) else if a = b then 0 else -1) < 0 ↔ a < b := by
  split
  · omega
  · split <;> omega
theorem zlc_gt {a b : Int} : 0 < (if b < a then (1 : Int) else if a = b then 0 else -1) ↔ b < a := by
  split
  · omega
  · split <;> omega
theorem zpc_pr : ∀ l : Nat, l < 64 → l ≠ 0 → zpc (l &&& (l - 1)) + 1 = zpc l ∧ l &&& (l - 1) < 64 ∧ 1 ≤ zpc l := by decide +kernel
theorem zpc_0 : zpc 0 = 0 := by decide +kernel

set_option maxRecDepth 100000 in
set_option maxHeartbeats 4000000 in
theorem ct_X11_in {nn : Nat} {sh : Nat → zShc} {μ : zMem} {a b c : Int} (ha : zrl a) (hb : zrl b) (hc : zrl c) : Ci kX11_in 1 nn sh [zJ a, zJ b, zJ c] μ (fun r μ' => r = (if b ≤ a ∧ a ≤ c then 1 else 0) ∧ μ' = μ) := by
  refine Ct.of [some (zJ a), none, some (zJ b), none, some (zJ c), none] rfl (Nat.le_of_ble_eq_true rfl) (by decide +kernel) (fun Γ ad hO hR => ?_)
  refine zY.lload_n hO dX11_in_0 rfl ?_
  refine zY.lload_n hO dX11_in_1 rfl ?_
  refine zY.lcmp ha hb hO dX11_in_2 ?_
  refine zY.if_lt (tgt := 17) zlc_r hO dX11_in_3 (by decide) (fun c3 => ?_) (fun c3 => ?_)
  ·
    have hlt := zlc_lt.mp c3
    refine zY.iconst hO dX11_in_17 ?_
    exact zY.zret (by omega) rfl ⟨_, rfl, ⟨by first | rw [if_pos (by omega)] | rw [if_neg (by omega)], rfl⟩⟩ hR hO dX11_in_18
  ·
    have hnl : ¬ a < b := fun z => c3 (zlc_lt.mpr z)
    refine zY.lload_n hO dX11_in_6 rfl ?_
    refine zY.lload hO dX11_in_7 rfl ?_
    refine zY.lcmp ha hc hO dX11_in_9 ?_
    refine zY.if_gt (tgt := 17) zlc_r hO dX11_in_10 (by decide) (fun c10 => ?_) (fun c10 => ?_)
    ·
      have hgt := zlc_gt.mp c10
      refine zY.iconst hO dX11_in_17 ?_
      exact zY.zret (by omega) rfl ⟨_, rfl, ⟨by first | rw [if_pos (by omega)] | rw [if_neg (by omega)], rfl⟩⟩ hR hO dX11_in_18
    ·
      have hng : ¬ c < a := fun z => c10 (zlc_gt.mpr z)
      refine zY.iconst hO dX11_in_13 ?_
      refine zY.goto (tgt := 18) hO dX11_in_14 (by decide) ?_
      exact zY.zret (by omega) rfl ⟨_, rfl, ⟨by first | rw [if_pos (by omega)] | rw [if_neg (by omega)], rfl⟩⟩ hR hO dX11_in_18

set_option maxRecDepth 100000 in
set_option maxHeartbeats 4000000 in
theorem ct_X11_ones {nn : Nat} {sh : Nat → zShc} {μ : zMem} {m : Nat} (hm : m < 64) : Ci kX11_ones 1 nn sh [zI (m : Int)] μ (fun r μ' => r = zpc m ∧ μ' = μ) := by
  refine Ct.of [some (zI (m : Int)), none, none] rfl (Nat.le_of_ble_eq_true rfl) (by decide +kernel) (fun Γ ad hO hR => ?_)
  refine zY.iconst hO dX11_ones_0 ?_
  refine zY.istore1 (zc1_I _) hO dX11_ones_1 ?_
  refine zY.iload_n hO dX11_ones_2 rfl ?_
  refine zY.istore2 (zc1_I _) hO dX11_ones_3 ?_
  have L4 : ∀ i : Nat, i ≤ 6 → ∀ l : Nat, l < 64 → zpc l + (i : Int) = zpc m → zY Γ (nn, sh, ad, 0, 0) 4 [some (zI (m : Int)), some (zI (i : Int)), some (zI (l : Int))] [] μ := by
    refine zdown (6) (fun i hi_i ih4 => ?_)
    intro l hl hV
    have hpm := zpc_b m
    have hpl := zpc_b l
    refine zY.iload_n hO dX11_ones_4 rfl ?_
    refine zY.if_eq (tgt := 20) ⟨by omega, by omega⟩ hO dX11_ones_5 (by decide) (fun c5 => ?_) (fun c5 => ?_)
    ·
      refine zY.iload_n hO dX11_ones_20 rfl ?_
      exact zY.iret rfl ⟨_, rfl, ⟨by rw [show l = 0 by omega, zpc_0] at hV; omega, rfl⟩⟩ hR hO dX11_ones_21
    ·
      have hpr := zpc_pr l hl (by omega)
      refine zY.iinc1 ((i + 1 : Nat) : Int) (by omega) (zc1_I _) hO dX11_ones_8 ?_
      refine zY.iload_n hO dX11_ones_11 rfl ?_
      refine zY.iload_n hO dX11_ones_12 rfl ?_
      refine zY.iconst hO dX11_ones_13 ?_
      refine zY.isub hO dX11_ones_14 ?_
      refine zY.as (b := ((l - 1 : Nat) : Int)) (by omega) ?_
      refine zY.iand (c := ((l &&& (l - 1) : Nat) : Int)) (zb_and l hl (l - 1) (by omega)) hO dX11_ones_15 ?_
      refine zY.istore2 (zc1_I _) hO dX11_ones_16 ?_
      refine zY.goto (tgt := 4) hO dX11_ones_17 (by decide) ?_
      exact ih4 (by omega) _ hpr.2.1 (by omega)
  exact L4 0 (by omega) m hm (by omega)

set_option maxRecDepth 100000 in
set_option maxHeartbeats 4000000 in
theorem ct_X11_isWord {nn : Nat} {sh : Nat → zShc} {μ : zMem} {a : Int} (ha : zr a) : Ci kX11_isWord 2 nn sh [zI a] μ (fun r μ' => r = (if 0 ≤ a ∧ a ≤ 9 then 1 else 0) ∧ μ' = μ) := by
  refine Ct.of [some (zI a)] rfl (Nat.le_of_ble_eq_true rfl) (by decide +kernel) (fun Γ ad hO hR => ?_)
  refine zY.iload_n hO dX11_isWord_0 rfl ?_
  refine zY.i2l ha hO dX11_isWord_1 ?_
  refine zY.lconst0 hO dX11_isWord_2 ?_
  refine zY.ldc2 hO zcl_X11_81 dX11_isWord_3 ?_
  refine zY.callS3iD (ct_X11_in (c := 9) ⟨by omega, by omega⟩ ⟨by omega, by omega⟩ ⟨by omega, by omega⟩) (by decide) zcal_X11_in zml_X11_83 (Nat.le_of_ble_eq_true rfl) rfl ⟨Nat.zero_le _, Nat.zero_le _⟩ hO dX11_isWord_6 ?_
  exact zY.zret zb01 rfl ⟨_, rfl, ⟨rfl, rfl⟩⟩ hR hO dX11_isWord_9

set_option maxRecDepth 100000 in
set_option maxHeartbeats 4000000 in
theorem ct_X11_isSheet {nn : Nat} {sh : Nat → zShc} {μ : zMem} {a : Int} (ha : zr a) : Ci kX11_isSheet 2 nn sh [zI a] μ (fun r μ' => r = (if 0 ≤ a ∧ a ≤ 5 then 1 else 0) ∧ μ' = μ) := by
  refine Ct.of [some (zI a)] rfl (Nat.le_of_ble_eq_true rfl) (by decide +kernel) (fun Γ ad hO hR => ?_)
  refine zY.iload_n hO dX11_isSheet_0 rfl ?_
  refine zY.i2l ha hO dX11_isSheet_1 ?_
  refine zY.lconst0 hO dX11_isSheet_2 ?_
  refine zY.ldc2 hO zcl_X11_87 dX11_isSheet_3 ?_
  refine zY.callS3iD (ct_X11_in (c := 5) ⟨by omega, by omega⟩ ⟨by omega, by omega⟩ ⟨by omega, by omega⟩) (by decide) zcal_X11_in zml_X11_83 (Nat.le_of_ble_eq_true rfl) rfl ⟨Nat.zero_le _, Nat.zero_le _⟩ hO dX11_isSheet_6 ?_
  exact zY.zret zb01 rfl ⟨_, rfl, ⟨rfl, rfl⟩⟩ hR hO dX11_isSheet_9

set_option maxRecDepth 100000 in
set_option maxHeartbeats 4000000 in
theorem ct_X11_isSort {nn : Nat} {sh : Nat → zShc} {μ : zMem} {a : Int} (ha : zr a) : Ci kX11_isSort 2 nn sh [zI a] μ (fun r μ' => r = (if 0 ≤ a ∧ a ≤ 5 then 1 else 0) ∧ μ' = μ) := by
  refine Ct.of [some (zI a)] rfl (Nat.le_of_ble_eq_true rfl) (by decide +kernel) (fun Γ ad hO hR => ?_)
  refine zY.iload_n hO dX11_isSort_0 rfl ?_
  refine zY.i2l ha hO dX11_isSort_1 ?_
  refine zY.lconst0 hO dX11_isSort_2 ?_
  refine zY.ldc2 hO zcl_X11_87 dX11_isSort_3 ?_
  refine zY.callS3iD (ct_X11_in (c := 5) ⟨by omega, by omega⟩ ⟨by omega, by omega⟩ ⟨by omega, by omega⟩) (by decide) zcal_X11_in zml_X11_83 (Nat.le_of_ble_eq_true rfl) rfl ⟨Nat.zero_le _, Nat.zero_le _⟩ hO dX11_isSort_6 ?_
  exact zY.zret zb01 rfl ⟨_, rfl, ⟨rfl, rfl⟩⟩ hR hO dX11_isSort_9

set_option maxRecDepth 100000 in
set_option maxHeartbeats 4000000 in
theorem ct_X11_there {μ : zMem} {D : zBk} {K0 K1 : Option zBk} (hM : zMd D K0 K1 μ)  : Ci kX11_there 1 150 zSX [zP 127] μ (fun r μ' => r = (zthD D : Int) ∧ μ' = μ) := by
  refine Ct.of [some (zP 127), none, none] rfl (Nat.le_of_ble_eq_true rfl) (by decide +kernel) (fun Γ ad hO hR => ?_)
  refine zY.iconst hO dX11_there_0 ?_
  refine zY.istore1 (zc1_P _) hO dX11_there_1 ?_
  refine zY.iconst hO dX11_there_2 ?_
  refine zY.istore2 (zc1_I _) hO dX11_there_3 ?_
  have L4 : ∀ i : Nat, i ≤ 6 → zY Γ (150, zSX, ad, 0, 0) 4 [some (zP 127), some (zI (zth (D 4) i : Int)), some (zI (i : Int))] [] μ := by
    refine zdown (6) (fun i hi_i ih4 => ?_)
    have h64 := zth_64 (D 4) (k := i) (by omega)
    refine zY.iload_n hO dX11_there_4 rfl ?_
    refine zY.bipush hO dX11_there_5 (by decide) ?_
    refine zY.icmp_ge (tgt := 35) ⟨by omega, by omega⟩ ⟨by omega, by omega⟩ hO dX11_there_7 (by decide) (fun c7 => ?_) (fun c7 => ?_)
    ·
      refine zY.iload_n hO dX11_there_35 rfl ?_
      exact zY.iret rfl ⟨_, rfl, ⟨by rw [show i = 6 by omega]; rfl, rfl⟩⟩ hR hO dX11_there_36
    ·
      refine zY.iload_n hO dX11_there_10 rfl ?_
      refine zY.aload_n hO dX11_there_11 rfl ?_
      refine zY.getR zfl_X11_22 (by decide : 127 < 150) rfl rfl hO dX11_there_12 ?_
      refine zY.iload_n hO dX11_there_15 rfl ?_
      refine zY.iald (i) rfl (by omega) (by decide) (by decide : 132 < 150) rfl hO dX11_there_16 ?_
      refine zY.as (b := D 4 i) (hM.2.1.1 4 (by omega) (by omega) i (by omega)) ?_
      have hsz := hM.1.2.1 i (by omega)
      refine zY.if_le (tgt := 26) ⟨by omega, by omega⟩ hO dX11_there_17 (by decide) (fun c17 => ?_) (fun c17 => ?_)
      ·
        refine zY.iconst hO dX11_there_26 ?_
        refine zY.ior (c := ((zth (D 4) i ||| 0 : Nat) : Int)) (zb_or _ h64 0 (by decide)) hO dX11_there_27 ?_
        refine zY.istore1 (zc1_P _) hO dX11_there_28 ?_
        refine zY.iinc2 _ rfl (zc1_I _) hO dX11_there_29 ?_
        refine zY.goto (tgt := 4) hO dX11_there_32 (by decide) ?_
        have hin := ih4 (by omega)
        simp only [zth] at hin
        rw [if_neg (by omega), ← Nat.or_zero (zth (D 4) i)] at hin
        exact hin
      ·
        refine zY.iconst hO dX11_there_20 ?_
        refine zY.iload_n hO dX11_there_21 rfl ?_
        refine zY.ishl (c := ((2 ^ i : Nat) : Int)) (zb_shl i (by omega)) hO dX11_there_22 ?_
        refine zY.goto (tgt := 27) hO dX11_there_23 (by decide) ?_
        refine zY.ior (c := ((zth (D 4) i ||| 2 ^ i : Nat) : Int)) (zb_or _ h64 _ (Nat.pow_lt_pow_right (by omega) (by omega : i < 6))) hO dX11_there_27 ?_
        refine zY.istore1 (zc1_P _) hO dX11_there_28 ?_
        refine zY.iinc2 _ rfl (zc1_I _) hO dX11_there_29 ?_
        refine zY.goto (tgt := 4) hO dX11_there_32 (by decide) ?_
        have hin := ih4 (by omega)
        simp only [zth] at hin
        rw [if_pos (by omega)] at hin
        exact hin
  exact L4 0 (by omega)

set_option maxRecDepth 100000 in
set_option maxHeartbeats 4000000 in
theorem ct_X11_say {μ : zMem} {D : zBk} {K0 K1 : Option zBk} (hM : zMd D K0 K1 μ) {v : Int} (hv : zr v) : Ci kX11_say 2 150 zSX [zP 127, zI v] μ (fun a μ' => a = zA_say D v ∧ zMd (zU_say D v) K0 K1 μ' ∧ (∀ q, q < 127 → μ' q = μ q)) := by
  refine Ct.of [some (zP 127), some (zI v)] rfl (Nat.le_of_ble_eq_true rfl) (by decide +kernel) (fun Γ ad hO hR => ?_)
  have hn := zN_eq hM.1
  have hpm := hM.2.2.1.2.trans hn.1
  refine zY.iload_n hO dX11_say_0 rfl ?_
  refine zY.i2l hv hO dX11_say_1 ?_
  refine zY.ldc2 hO zcl_X11_89 dX11_say_2 ?_
  refine zY.ldc2 hO zcl_X11_91 dX11_say_5 ?_
  refine zY.callS3iD (ct_X11_in ⟨by omega, by omega⟩ ⟨by omega, by omega⟩ ⟨by omega, by omega⟩) (by decide) zcal_X11_in zml_X11_83 (Nat.le_of_ble_eq_true rfl) rfl ⟨Nat.zero_le _, Nat.zero_le _⟩ hO dX11_say_8 ?_
  refine zY.if_ne (tgt := 17) zr_b hO dX11_say_11 (by decide) (fun c11 => ?_) (fun c11 => ?_)
  ·
    replace c11 := zb1.mp c11
    refine zY.aload_n hO dX11_say_17 rfl ?_
    refine zY.getI zfl_X11_93 (by decide : 127 < 150) rfl rfl hO dX11_say_18 ?_
    refine zY.as (b := (zN D : Int)) hpm ?_
    refine zY.bipush hO dX11_say_21 (by decide) ?_
    refine zY.icmp_ne (tgt := 29) ⟨by omega, by omega⟩ ⟨by omega, by omega⟩ hO dX11_say_23 (by decide) (fun c23 => ?_) (fun c23 => ?_)
    ·
      refine zY.aload_n hO dX11_say_29 rfl ?_
      refine zY.getR zfl_X11_34 (by decide : 127 < 150) rfl rfl hO dX11_say_30 ?_
      refine zY.aload_n hO dX11_say_33 rfl ?_
      refine zY.getI zfl_X11_93 (by decide : 127 < 150) rfl rfl hO dX11_say_34 ?_
      refine zY.as (b := (zN D : Int)) hpm ?_
      refine zY.iload_n hO dX11_say_37 rfl ?_
      refine zY.iast (zN D) rfl (by omega) (by decide) (by decide : 136 < 150) rfl hO dX11_say_38 ?_
      refine zY.aload_n hO dX11_say_39 rfl ?_
      refine zY.dup rfl hO dX11_say_40 ?_
      refine zY.getI zfl_X11_93 (by decide : 127 < 150) rfl rfl hO dX11_say_41 ?_
      refine zY.as (b := (zN D : Int)) (by rw [zwr_ne (by decide)]; exact hpm) ?_
      refine zY.iconst hO dX11_say_44 ?_
      refine zY.iadd hO dX11_say_45 ?_
      refine zY.putI zfp_X11_93 (by decide : 127 < 150) rfl rfl hO dX11_say_46 ?_
      refine zY.aload_n hO dX11_say_49 rfl ?_
      refine zY.getI zfl_X11_93 (by decide : 127 < 150) rfl rfl hO dX11_say_50 ?_
      refine zY.as (b := (zN D : Int) + 1) (by simp [zwr]) ?_
      exact zY.iret rfl ⟨_, rfl, ⟨by unfold zA_say; rw [if_pos c11, if_pos (by omega), hn.1], by unfold zU_say; rw [if_pos ⟨c11, by omega⟩]; exact zMd_say hM (by have hz := zWF_set10 (zWF_set9 hM.1 (k := zN D) (v := v) ⟨by omega, by omega⟩) (v := D 10 0 + 1) ⟨by omega, by omega⟩; exact hz), fun q hq => by rw [zwr_ne (by omega), zwr_ne (by omega)]⟩⟩ hR hO dX11_say_53
    ·
      refine zY.bipush hO dX11_say_26 (by decide) ?_
      exact zY.iret rfl ⟨_, rfl, ⟨by unfold zA_say; rw [if_pos c11, if_neg (by omega)], by unfold zU_say; rw [if_neg (fun z => by omega)]; exact hM, fun _ _ => rfl⟩⟩ hR hO dX11_say_28
  ·
    replace c11 := zb0.mp c11
    refine zY.bipush hO dX11_say_14 (by decide) ?_
    exact zY.iret rfl ⟨_, rfl, ⟨by unfold zA_say; rw [if_neg c11], by unfold zU_say; rw [if_neg (fun z => c11 z.1)]; exact hM, fun _ _ => rfl⟩⟩ hR hO dX11_say_16

set_option maxRecDepth 100000 in
set_option maxHeartbeats 4000000 in
theorem ct_X11_wipe {μ : zMem} {D : zBk} {K0 K1 : Option zBk} (hM : zMd D K0 K1 μ)  : Ci kX11_wipe 1 150 zSX [zP 127] μ (fun a μ' => a = D 10 0 ∧ zMd (zU_wipe D) K0 K1 μ' ∧ (∀ q, q < 127 → μ' q = μ q)) := by
  refine Ct.of [some (zP 127), none] rfl (Nat.le_of_ble_eq_true rfl) (by decide +kernel) (fun Γ ad hO hR => ?_)
  refine zY.aload_n hO dX11_wipe_0 rfl ?_
  refine zY.getI zfl_X11_93 (by decide : 127 < 150) rfl rfl hO dX11_wipe_1 ?_
  refine zY.as (b := D 10 0) hM.2.2.1.2 ?_
  refine zY.istore1 (zc1_P _) hO dX11_wipe_4 ?_
  refine zY.aload_n hO dX11_wipe_5 rfl ?_
  refine zY.iconst hO dX11_wipe_6 ?_
  refine zY.putI zfp_X11_93 (by decide : 127 < 150) rfl rfl hO dX11_wipe_7 ?_
  refine zY.iload_n hO dX11_wipe_10 rfl ?_
  exact zY.iret rfl ⟨_, rfl, ⟨rfl, zMd_wipe hM, fun q hq => zwr_ne (by omega)⟩⟩ hR hO dX11_wipe_11

set_option maxRecDepth 100000 in
set_option maxHeartbeats 4000000 in
theorem ct_X11_faultOfRow {μ : zMem} {D : zBk} {K0 K1 : Option zBk} (hM : zMd D K0 K1 μ) {lo hi : Int} {most : Nat} (hlo : zr lo) (hhi : zr hi) (hm : most < 100) : Ci kX11_faultOfRow 2 150 zSX [zP 127, zI lo, zI hi, zI (most : Int)] μ (fun a μ' => a = zf1 D lo hi most ∧ μ' = μ) := by
  refine Ct.of [some (zP 127), some (zI lo), some (zI hi), some (zI (most : Int)), none] rfl (Nat.le_of_ble_eq_true rfl) (by decide +kernel) (fun Γ ad hO hR => ?_)
  have hn := zN_eq hM.1
  have hpm := hM.2.2.1.2.trans hn.1
  refine zY.iconst hO dX11_faultOfRow_0 ?_
  refine zY.istore4 (zc1_I _) hO dX11_faultOfRow_1 ?_
  have L3 : ∀ i : Nat, i ≤ zN D → i ≤ most → zfst (zf1p D lo hi most) 0 (zN D) = zfst (zf1p D lo hi most) i (zN D - i) → zY Γ (150, zSX, ad, 0, 0) 3 [some (zP 127), some (zI lo), some (zI hi), some (zI (most : Int)), some (zI (i : Int))] [] μ := by
    refine zdown (zN D) (fun i hi_i ih3 => ?_)
    intro him hV
    refine zY.iload hO dX11_faultOfRow_3 rfl ?_
    refine zY.aload_n hO dX11_faultOfRow_5 rfl ?_
    refine zY.getI zfl_X11_93 (by decide : 127 < 150) rfl rfl hO dX11_faultOfRow_6 ?_
    refine zY.as (b := (zN D : Int)) hpm ?_
    refine zY.icmp_ge (tgt := 45) ⟨by omega, by omega⟩ ⟨by omega, by omega⟩ hO dX11_faultOfRow_9 (by decide) (fun c9 => ?_) (fun c9 => ?_)
    ·
      have hiN : i = zN D := by omega
      subst hiN
      refine zY.aload_n hO dX11_faultOfRow_45 rfl ?_
      refine zY.getI zfl_X11_93 (by decide : 127 < 150) rfl rfl hO dX11_faultOfRow_46 ?_
      refine zY.as (b := (zN D : Int)) hpm ?_
      refine zY.if_ne (tgt := 56) ⟨by omega, by omega⟩ hO dX11_faultOfRow_49 (by decide) (fun c49 => ?_) (fun c49 => ?_)
      ·
        refine zY.bipush hO dX11_faultOfRow_56 (by decide) ?_
        exact zY.iret rfl ⟨_, rfl, ⟨by unfold zf1; rw [hV, zfst_end, if_neg (by omega)]; first | rw [if_pos (by omega)] | rw [if_neg (by omega)], rfl⟩⟩ hR hO dX11_faultOfRow_58
      ·
        refine zY.iconst hO dX11_faultOfRow_52 ?_
        refine zY.goto (tgt := 58) hO dX11_faultOfRow_53 (by decide) ?_
        exact zY.iret rfl ⟨_, rfl, ⟨by unfold zf1; rw [hV, zfst_end, if_neg (by omega)]; first | rw [if_pos (by omega)] | rw [if_neg (by omega)], rfl⟩⟩ hR hO dX11_faultOfRow_58
    ·
      refine zY.iload hO dX11_faultOfRow_12 rfl ?_
      refine zY.iload_n hO dX11_faultOfRow_14 rfl ?_
      refine zY.icmp_eq (tgt := 36) ⟨by omega, by omega⟩ ⟨by omega, by omega⟩ hO dX11_faultOfRow_15 (by decide) (fun c15 => ?_) (fun c15 => ?_)
      ·
        refine zY.iload hO dX11_faultOfRow_36 rfl ?_
        exact zY.iret rfl ⟨_, rfl, ⟨by unfold zf1; rw [hV, zfst_hit (by omega) (decide_eq_true (by omega)), if_pos (by omega)], rfl⟩⟩ hR hO dX11_faultOfRow_38
      ·
        refine zY.aload_n hO dX11_faultOfRow_18 rfl ?_
        refine zY.getR zfl_X11_34 (by decide : 127 < 150) rfl rfl hO dX11_faultOfRow_19 ?_
        refine zY.iload hO dX11_faultOfRow_22 rfl ?_
        refine zY.iald (i) rfl (by omega) (by decide) (by decide : 136 < 150) rfl hO dX11_faultOfRow_24 ?_
        have hd := hM.1.2.2.2.2.2.2.2.2 i (by omega)
        refine zY.as (b := D 9 i) (hM.2.2.1.1 i (by omega)) ?_
        refine zY.i2l ⟨by omega, by omega⟩ hO dX11_faultOfRow_25 ?_
        refine zY.iload_n hO dX11_faultOfRow_26 rfl ?_
        refine zY.i2l hlo hO dX11_faultOfRow_27 ?_
        refine zY.iload_n hO dX11_faultOfRow_28 rfl ?_
        refine zY.i2l hhi hO dX11_faultOfRow_29 ?_
        refine zY.callS3iD (ct_X11_in ⟨by omega, by omega⟩ ⟨by omega, by omega⟩ ⟨by omega, by omega⟩) (by decide) zcal_X11_in zml_X11_83 (Nat.le_of_ble_eq_true rfl) rfl ⟨Nat.zero_le _, Nat.zero_le _⟩ hO dX11_faultOfRow_30 ?_
        refine zY.if_ne (tgt := 39) zr_b hO dX11_faultOfRow_33 (by decide) (fun c33 => ?_) (fun c33 => ?_)
        ·
          replace c33 := zb1.mp c33
          refine zY.iinc4 _ rfl (zc1_I _) hO dX11_faultOfRow_39 ?_
          refine zY.goto (tgt := 3) hO dX11_faultOfRow_42 (by decide) ?_
          exact ih3 (by omega) (by omega) (by rw [hV, zfst_go (by omega) (by unfold zf1p; simp only [decide_eq_true_eq]; omega)])
        ·
          replace c33 := zb0.mp c33
          refine zY.iload hO dX11_faultOfRow_36 rfl ?_
          exact zY.iret rfl ⟨_, rfl, ⟨by unfold zf1; rw [hV, zfst_hit (by omega) (decide_eq_true (by omega)), if_pos (by omega)], rfl⟩⟩ hR hO dX11_faultOfRow_38
  exact L3 0 (by omega) (by omega) rfl

set_option maxRecDepth 100000 in
set_option maxHeartbeats 4000000 in
theorem ct_X11_faultOfOrders {μ : zMem} {D : zBk} {K0 K1 : Option zBk} (hM : zMd D K0 K1 μ) {two : Bool} : Ci kX11_faultOfOrders 2 150 zSX [zP 127, zI (if two = true then 1 else 0)] μ (fun a μ' => a = zfo D two (zN D) (zthD D) (-6) 0 ∧ μ' = μ) := by
  refine Ct.of [some (zP 127), some (zI (if two = true then 1 else 0)), none, none, none, none] rfl (Nat.le_of_ble_eq_true rfl) (by decide +kernel) (fun Γ ad hO hR => ?_)
  have hn := zN_eq hM.1
  have hpm := hM.2.2.1.2.trans hn.1
  obtain ⟨rq, hrq⟩ : ∃ rq : Int, rq = (if two = true then 1 else 0) := ⟨_, rfl⟩
  rw [← hrq]
  have hr : (rq = 1 ∧ two = true) ∨ (rq = 0 ∧ two = false) := by cases two <;> simp [hrq]
  refine zY.aload_n hO dX11_faultOfOrders_0 rfl ?_
  refine zY.callV0iD (ct_X11_there hM) (by decide) zcal_X11_there zml_X11_96 (by decide : 127 < 150) rfl rfl (Nat.le_of_ble_eq_true rfl) rfl ⟨Nat.zero_le _, Nat.zero_le _⟩ hO dX11_faultOfOrders_1 ?_
  refine zY.istore2 (zc1_I _) hO dX11_faultOfOrders_4 ?_
  refine zY.bipush hO dX11_faultOfOrders_5 (by decide) ?_
  refine zY.istore3 (zc1_I _) hO dX11_faultOfOrders_7 ?_
  refine zY.iconst hO dX11_faultOfOrders_8 ?_
  refine zY.istore4 (zc1_I _) hO dX11_faultOfOrders_9 ?_
  have L11 : ∀ i : Nat, i ≤ zN D → ∀ (left : Nat) (colon : Int), left < 64 → (colon = -6 ∨ (0 < colon ∧ colon < (i : Int) ∧ two = true)) → zfo D two (zN D - i) left colon i = zfo D two (zN D) (zthD D) (-6) 0 → zY Γ (150, zSX, ad, 0, 0) 11 [some (zP 127), some (zI rq), some (zI (left : Int)), some (zI colon), some (zI (i : Int)), none] [] μ := by
    refine zdown (zN D) (fun i hi_i ih11 => ?_)
    intro left colon hl64 hc hV
    refine zY.iload hO dX11_faultOfOrders_11 rfl ?_
    refine zY.aload_n hO dX11_faultOfOrders_13 rfl ?_
    refine zY.getI zfl_X11_93 (by decide : 127 < 150) rfl rfl hO dX11_faultOfOrders_14 ?_
    refine zY.as (b := (zN D : Int)) hpm ?_
    refine zY.icmp_ge (tgt := 107) ⟨by omega, by omega⟩ ⟨by omega, by omega⟩ hO dX11_faultOfOrders_17 (by decide) (fun c17 => ?_) (fun c17 => ?_)
    ·
      have hiN : i = zN D := by omega
      subst hiN
      refine zY.iload_n hO dX11_faultOfOrders_107 rfl ?_
      refine zY.if_eq (tgt := 133) ⟨by omega, by omega⟩ hO dX11_faultOfOrders_108 (by decide) (fun c108 => ?_) (fun c108 => ?_)
      ·
        refine zY.aload_n hO dX11_faultOfOrders_133 rfl ?_
        refine zY.getI zfl_X11_93 (by decide : 127 < 150) rfl rfl hO dX11_faultOfOrders_134 ?_
        refine zY.as (b := (zN D : Int)) hpm ?_
        refine zY.if_ne (tgt := 144) ⟨by omega, by omega⟩ hO dX11_faultOfOrders_137 (by decide) (fun c137 => ?_) (fun c137 => ?_)
        ·
          refine zY.iconst hO dX11_faultOfOrders_144 ?_
          refine zY.istore4 (zc1_I _) hO dX11_faultOfOrders_145 ?_
          refine zY.iload hO dX11_faultOfOrders_147 rfl ?_
          refine zY.if_eq (tgt := 159) ⟨by omega, by omega⟩ hO dX11_faultOfOrders_149 (by decide) (fun c149 => ?_) (fun c149 => ?_)
          ·
            refine zY.bipush hO dX11_faultOfOrders_159 (by decide) ?_
            exact zY.iret rfl ⟨_, rfl, ⟨by
              rw [← hV, Nat.sub_self]
              simp only [zfo]
              rcases hr with ⟨h1, h2⟩ | ⟨h1, h2⟩
              · rw [if_pos h2]
                first | (exfalso; omega) | rw [if_pos (by omega)] | rw [if_neg (by omega)]
              · rw [if_neg (by rw [h2]; decide)]
                first | (exfalso; omega) | rw [if_pos (by omega)] | rw [if_neg (by omega)], rfl⟩⟩ hR hO dX11_faultOfOrders_161
          ·
            refine zY.aload_n hO dX11_faultOfOrders_152 rfl ?_
            refine zY.getI zfl_X11_93 (by decide : 127 < 150) rfl rfl hO dX11_faultOfOrders_153 ?_
            refine zY.as (b := (zN D : Int)) hpm ?_
            refine zY.goto (tgt := 161) hO dX11_faultOfOrders_156 (by decide) ?_
            exact zY.iret rfl ⟨_, rfl, ⟨by
              rw [← hV, Nat.sub_self]
              simp only [zfo]
              rcases hr with ⟨h1, h2⟩ | ⟨h1, h2⟩
              · rw [if_pos h2]
                first | (exfalso; omega) | rw [if_pos (by omega)] | rw [if_neg (by omega)]
              · rw [if_neg (by rw [h2]; decide)]
                first | (exfalso; omega) | rw [if_pos (by omega)] | rw [if_neg (by omega)], rfl⟩⟩ hR hO dX11_faultOfOrders_161
        ·
          refine zY.iconst hO dX11_faultOfOrders_140 ?_
          refine zY.goto (tgt := 145) hO dX11_faultOfOrders_141 (by decide) ?_
          refine zY.istore4 (zc1_I _) hO dX11_faultOfOrders_145 ?_
          refine zY.iload hO dX11_faultOfOrders_147 rfl ?_
          refine zY.if_eq (tgt := 159) ⟨by omega, by omega⟩ hO dX11_faultOfOrders_149 (by decide) (fun c149 => ?_) (fun c149 => ?_)
          ·
            refine zY.bipush hO dX11_faultOfOrders_159 (by decide) ?_
            exact zY.iret rfl ⟨_, rfl, ⟨by
              rw [← hV, Nat.sub_self]
              simp only [zfo]
              rcases hr with ⟨h1, h2⟩ | ⟨h1, h2⟩
              · rw [if_pos h2]
                first | (exfalso; omega) | rw [if_pos (by omega)] | rw [if_neg (by omega)]
              · rw [if_neg (by rw [h2]; decide)]
                first | (exfalso; omega) | rw [if_pos (by omega)] | rw [if_neg (by omega)], rfl⟩⟩ hR hO dX11_faultOfOrders_161
          ·
            refine zY.aload_n hO dX11_faultOfOrders_152 rfl ?_
            refine zY.getI zfl_X11_93 (by decide : 127 < 150) rfl rfl hO dX11_faultOfOrders_153 ?_
            refine zY.as (b := (zN D : Int)) hpm ?_
            refine zY.goto (tgt := 161) hO dX11_faultOfOrders_156 (by decide) ?_
            exact zY.iret rfl ⟨_, rfl, ⟨by
              rw [← hV, Nat.sub_self]
              simp only [zfo]
              rcases hr with ⟨h1, h2⟩ | ⟨h1, h2⟩
              · rw [if_pos h2]
                first | (exfalso; omega) | rw [if_pos (by omega)] | rw [if_neg (by omega)]
              · rw [if_neg (by rw [h2]; decide)]
                first | (exfalso; omega) | rw [if_pos (by omega)] | rw [if_neg (by omega)], rfl⟩⟩ hR hO dX11_faultOfOrders_161
      ·
        refine zY.iload_n hO dX11_faultOfOrders_111 rfl ?_
        refine zY.if_lt (tgt := 125) ⟨by omega, by omega⟩ hO dX11_faultOfOrders_112 (by decide) (fun c112 => ?_) (fun c112 => ?_)
        ·
          refine zY.iconst hO dX11_faultOfOrders_125 ?_
          refine zY.goto (tgt := 145) hO dX11_faultOfOrders_126 (by decide) ?_
          refine zY.istore4 (zc1_I _) hO dX11_faultOfOrders_145 ?_
          refine zY.iload hO dX11_faultOfOrders_147 rfl ?_
          refine zY.if_eq (tgt := 159) ⟨by omega, by omega⟩ hO dX11_faultOfOrders_149 (by decide) (fun c149 => ?_) (fun c149 => ?_)
          ·
            refine zY.bipush hO dX11_faultOfOrders_159 (by decide) ?_
            exact zY.iret rfl ⟨_, rfl, ⟨by
              rw [← hV, Nat.sub_self]
              simp only [zfo]
              rcases hr with ⟨h1, h2⟩ | ⟨h1, h2⟩
              · rw [if_pos h2]
                first | (exfalso; omega) | rw [if_pos (by omega)] | rw [if_neg (by omega)]
              · rw [if_neg (by rw [h2]; decide)]
                first | (exfalso; omega) | rw [if_pos (by omega)] | rw [if_neg (by omega)], rfl⟩⟩ hR hO dX11_faultOfOrders_161
          ·
            refine zY.aload_n hO dX11_faultOfOrders_152 rfl ?_
            refine zY.getI zfl_X11_93 (by decide : 127 < 150) rfl rfl hO dX11_faultOfOrders_153 ?_
            refine zY.as (b := (zN D : Int)) hpm ?_
            refine zY.goto (tgt := 161) hO dX11_faultOfOrders_156 (by decide) ?_
            exact zY.iret rfl ⟨_, rfl, ⟨by
              rw [← hV, Nat.sub_self]
              simp only [zfo]
              rcases hr with ⟨h1, h2⟩ | ⟨h1, h2⟩
              · rw [if_pos h2]
                first | (exfalso; omega) | rw [if_pos (by omega)] | rw [if_neg (by omega)]
              · rw [if_neg (by rw [h2]; decide)]
                first | (exfalso; omega) | rw [if_pos (by omega)] | rw [if_neg (by omega)], rfl⟩⟩ hR hO dX11_faultOfOrders_161
        ·
          refine zY.iload_n hO dX11_faultOfOrders_115 rfl ?_
          refine zY.aload_n hO dX11_faultOfOrders_116 rfl ?_
          refine zY.getI zfl_X11_93 (by decide : 127 < 150) rfl rfl hO dX11_faultOfOrders_117 ?_
          refine zY.as (b := (zN D : Int)) hpm ?_
          refine zY.iconst hO dX11_faultOfOrders_120 ?_
          refine zY.isub hO dX11_faultOfOrders_121 ?_
          refine zY.icmp_ne (tgt := 129) ⟨by omega, by omega⟩ ⟨by omega, by omega⟩ hO dX11_faultOfOrders_122 (by decide) (fun c122 => ?_) (fun c122 => ?_)
          ·
            refine zY.iconst hO dX11_faultOfOrders_129 ?_
            refine zY.goto (tgt := 145) hO dX11_faultOfOrders_130 (by decide) ?_
            refine zY.istore4 (zc1_I _) hO dX11_faultOfOrders_145 ?_
            refine zY.iload hO dX11_faultOfOrders_147 rfl ?_
            refine zY.if_eq (tgt := 159) ⟨by omega, by omega⟩ hO dX11_faultOfOrders_149 (by decide) (fun c149 => ?_) (fun c149 => ?_)
            ·
              refine zY.bipush hO dX11_faultOfOrders_159 (by decide) ?_
              exact zY.iret rfl ⟨_, rfl, ⟨by
                rw [← hV, Nat.sub_self]
                simp only [zfo]
                rcases hr with ⟨h1, h2⟩ | ⟨h1, h2⟩
                · rw [if_pos h2]
                  first | (exfalso; omega) | rw [if_pos (by omega)] | rw [if_neg (by omega)]
                · rw [if_neg (by rw [h2]; decide)]
                  first | (exfalso; omega) | rw [if_pos (by omega)] | rw [if_neg (by omega)], rfl⟩⟩ hR hO dX11_faultOfOrders_161
            ·
              refine zY.aload_n hO dX11_faultOfOrders_152 rfl ?_
              refine zY.getI zfl_X11_93 (by decide : 127 < 150) rfl rfl hO dX11_faultOfOrders_153 ?_
              refine zY.as (b := (zN D : Int)) hpm ?_
              refine zY.goto (tgt := 161) hO dX11_faultOfOrders_156 (by decide) ?_
              exact zY.iret rfl ⟨_, rfl, ⟨by
                rw [← hV, Nat.sub_self]
                simp only [zfo]
                rcases hr with ⟨h1, h2⟩ | ⟨h1, h2⟩
                · rw [if_pos h2]
                  first | (exfalso; omega) | rw [if_pos (by omega)] | rw [if_neg (by omega)]
                · rw [if_neg (by rw [h2]; decide)]
                  first | (exfalso; omega) | rw [if_pos (by omega)] | rw [if_neg (by omega)], rfl⟩⟩ hR hO dX11_faultOfOrders_161
          ·
            refine zY.iconst hO dX11_faultOfOrders_125 ?_
            refine zY.goto (tgt := 145) hO dX11_faultOfOrders_126 (by decide) ?_
            refine zY.istore4 (zc1_I _) hO dX11_faultOfOrders_145 ?_
            refine zY.iload hO dX11_faultOfOrders_147 rfl ?_
            refine zY.if_eq (tgt := 159) ⟨by omega, by omega⟩ hO dX11_faultOfOrders_149 (by decide) (fun c149 => ?_) (fun c149 => ?_)
            ·
              refine zY.bipush hO dX11_faultOfOrders_159 (by decide) ?_
              exact zY.iret rfl ⟨_, rfl, ⟨by
                rw [← hV, Nat.sub_self]
                simp only [zfo]
                rcases hr with ⟨h1, h2⟩ | ⟨h1, h2⟩
                · rw [if_pos h2]
                  first | (exfalso; omega) | rw [if_pos (by omega)] | rw [if_neg (by omega)]
                · rw [if_neg (by rw [h2]; decide)]
                  first | (exfalso; omega) | rw [if_pos (by omega)] | rw [if_neg (by omega)], rfl⟩⟩ hR hO dX11_faultOfOrders_161
            ·
              refine zY.aload_n hO dX11_faultOfOrders_152 rfl ?_
              refine zY.getI zfl_X11_93 (by decide : 127 < 150) rfl rfl hO dX11_faultOfOrders_153 ?_
              refine zY.as (b := (zN D : Int)) hpm ?_
              refine zY.goto (tgt := 161) hO dX11_faultOfOrders_156 (by decide) ?_
              exact zY.iret rfl ⟨_, rfl, ⟨by
                rw [← hV, Nat.sub_self]
                simp only [zfo]
                rcases hr with ⟨h1, h2⟩ | ⟨h1, h2⟩
                · rw [if_pos h2]
                  first | (exfalso; omega) | rw [if_pos (by omega)] | rw [if_neg (by omega)]
                · rw [if_neg (by rw [h2]; decide)]
                  first | (exfalso; omega) | rw [if_pos (by omega)] | rw [if_neg (by omega)], rfl⟩⟩ hR hO dX11_faultOfOrders_161
    ·
      refine zY.aload_n hO dX11_faultOfOrders_20 rfl ?_
      refine zY.getR zfl_X11_34 (by decide : 127 < 150) rfl rfl hO dX11_faultOfOrders_21 ?_
      refine zY.iload hO dX11_faultOfOrders_24 rfl ?_
      refine zY.iald (i) rfl (by omega) (by decide) (by decide : 136 < 150) rfl hO dX11_faultOfOrders_26 ?_
      have hd := hM.1.2.2.2.2.2.2.2.2 i (by omega)
      refine zY.as (b := D 9 i) (hM.2.2.1.1 i (by omega)) ?_
      refine zY.istore5 (zc1_I _) hO dX11_faultOfOrders_27 ?_
      have L55 : ¬ (D 9 i = 58 ∧ two = true ∧ colon < 0 ∧ 0 < i) → zY Γ (150, zSX, ad, 0, 0) 55 [some (zP 127), some (zI rq), some (zI (left : Int)), some (zI colon), some (zI (i : Int)), some (zI (D 9 i))] [] μ := by
        intro hH
        refine zY.iload hO dX11_faultOfOrders_55 rfl ?_
        refine zY.i2l ⟨by omega, by omega⟩ hO dX11_faultOfOrders_57 ?_
        refine zY.ldc2 hO zcl_X11_100 dX11_faultOfOrders_58 ?_
        refine zY.ldc2 hO zcl_X11_102 dX11_faultOfOrders_61 ?_
        refine zY.callS3iD (ct_X11_in ⟨by omega, by omega⟩ ⟨by omega, by omega⟩ ⟨by omega, by omega⟩) (by decide) zcal_X11_in zml_X11_83 (Nat.le_of_ble_eq_true rfl) rfl ⟨Nat.zero_le _, Nat.zero_le _⟩ hO dX11_faultOfOrders_64 ?_
        refine zY.if_eq (tgt := 98) zr_b hO dX11_faultOfOrders_67 (by decide) (fun c67 => ?_) (fun c67 => ?_)
        ·
          replace c67 := zb0.mp c67
          refine zY.iload hO dX11_faultOfOrders_98 rfl ?_
          exact zY.iret rfl ⟨_, rfl, ⟨by rw [← hV, zfo_in (i := i) (by omega), if_neg hH, if_neg (fun z => by omega)], rfl⟩⟩ hR hO dX11_faultOfOrders_100
        ·
          replace c67 := zb1.mp c67
          obtain ⟨gq, hgq⟩ : ∃ gq : Nat, D 9 i - 48 = (gq : Int) := ⟨(D 9 i - 48).toNat, by omega⟩
          have h2g : 2 ^ gq < 64 := zb_two gq (by omega)
          refine zY.iload_n hO dX11_faultOfOrders_70 rfl ?_
          refine zY.iload hO dX11_faultOfOrders_71 rfl ?_
          refine zY.bipush hO dX11_faultOfOrders_73 (by decide) ?_
          refine zY.isub hO dX11_faultOfOrders_75 ?_
          refine zY.as (b := (gq : Int)) hgq ?_
          refine zY.ishr (c := ((left / 2 ^ gq : Nat) : Int)) (zb_shr left hl64 gq (by omega)) hO dX11_faultOfOrders_76 ?_
          refine zY.iconst hO dX11_faultOfOrders_77 ?_
          have hlt : left / 2 ^ gq < 64 := Nat.lt_of_le_of_lt (Nat.div_le_self _ _) hl64
          have hbit := zb_bit left hl64 gq (by omega)
          refine zY.iand (c := ((left / 2 ^ gq % 2 : Nat) : Int)) (zb_and1 _ hlt) hO dX11_faultOfOrders_78 ?_
          refine zY.iconst hO dX11_faultOfOrders_79 ?_
          refine zY.icmp_ne (tgt := 98) ⟨by omega, by omega⟩ ⟨by omega, by omega⟩ hO dX11_faultOfOrders_80 (by decide) (fun c80 => ?_) (fun c80 => ?_)
          ·
            refine zY.iload hO dX11_faultOfOrders_98 rfl ?_
            exact zY.iret rfl ⟨_, rfl, ⟨by rw [← hV, zfo_in (i := i) (by omega), if_neg hH, if_neg (fun z => by have h9 := z.2.2; rw [hgq, Int.toNat_natCast] at h9; have hz := hbit.mpr h9; omega)], rfl⟩⟩ hR hO dX11_faultOfOrders_100
          ·
            refine zY.iload_n hO dX11_faultOfOrders_83 rfl ?_
            refine zY.iconst hO dX11_faultOfOrders_84 ?_
            refine zY.iload hO dX11_faultOfOrders_85 rfl ?_
            refine zY.bipush hO dX11_faultOfOrders_87 (by decide) ?_
            refine zY.isub hO dX11_faultOfOrders_89 ?_
            refine zY.as (b := (gq : Int)) hgq ?_
            refine zY.ishl (c := ((2 ^ gq : Nat) : Int)) (zb_shl gq (by omega)) hO dX11_faultOfOrders_90 ?_
            refine zY.iconst hO dX11_faultOfOrders_91 ?_
            refine zY.ixor (c := (-1 - ((2 ^ gq : Nat) : Int))) (zb_not _ h2g) hO dX11_faultOfOrders_92 ?_
            refine zY.iand (c := ((left - (left &&& 2 ^ gq) : Nat) : Int)) (zb_andn _ hl64 _ h2g) hO dX11_faultOfOrders_93 ?_
            refine zY.istore2 (zc1_I _) hO dX11_faultOfOrders_94 ?_
            refine zY.goto (tgt := 101) hO dX11_faultOfOrders_95 (by decide) ?_
            refine zY.iinc4 ((i + 1 : Nat) : Int) (by omega) (zc1_I _) hO dX11_faultOfOrders_101 ?_
            refine zY.goto (tgt := 11) hO dX11_faultOfOrders_104 (by decide) ?_
            refine zY.none5 ?_
            exact ih11 (by omega) _ colon (by omega) (hc.elim Or.inl (fun z => Or.inr ⟨z.1, by omega, z.2.2⟩)) (by rw [← hV, zfo_in (i := i) (by omega), if_neg hH, if_pos ⟨by omega, by omega, by rw [hgq, Int.toNat_natCast]; exact hbit.mp (by omega)⟩, hgq, Int.toNat_natCast])
      refine zY.iload hO dX11_faultOfOrders_29 rfl ?_
      refine zY.bipush hO dX11_faultOfOrders_31 (by decide) ?_
      refine zY.icmp_ne (tgt := 55) ⟨by omega, by omega⟩ ⟨by omega, by omega⟩ hO dX11_faultOfOrders_33 (by decide) (fun c33 => ?_) (fun c33 => ?_)
      ·
        exact L55 (fun z => by omega)
      ·
        refine zY.iload_n hO dX11_faultOfOrders_36 rfl ?_
        refine zY.if_eq (tgt := 55) ⟨by omega, by omega⟩ hO dX11_faultOfOrders_37 (by decide) (fun c37 => ?_) (fun c37 => ?_)
        ·
          exact L55 (fun z => by rcases hr with ⟨h1, h2⟩ | ⟨h1, h2⟩; omega; rw [h2] at z; cases z.2.1)
        ·
          refine zY.iload_n hO dX11_faultOfOrders_40 rfl ?_
          refine zY.if_ge (tgt := 55) ⟨by omega, by omega⟩ hO dX11_faultOfOrders_41 (by decide) (fun c41 => ?_) (fun c41 => ?_)
          ·
            exact L55 (fun z => by omega)
          ·
            refine zY.iload hO dX11_faultOfOrders_44 rfl ?_
            refine zY.if_le (tgt := 55) ⟨by omega, by omega⟩ hO dX11_faultOfOrders_46 (by decide) (fun c46 => ?_) (fun c46 => ?_)
            ·
              exact L55 (fun z => by omega)
            ·
              refine zY.iload hO dX11_faultOfOrders_49 rfl ?_
              refine zY.istore3 (zc1_I _) hO dX11_faultOfOrders_51 ?_
              refine zY.goto (tgt := 101) hO dX11_faultOfOrders_52 (by decide) ?_
              refine zY.iinc4 ((i + 1 : Nat) : Int) (by omega) (zc1_I _) hO dX11_faultOfOrders_101 ?_
              refine zY.goto (tgt := 11) hO dX11_faultOfOrders_104 (by decide) ?_
              refine zY.none5 ?_
              exact ih11 (by omega) left (i : Int) hl64 (Or.inr ⟨by omega, by omega, by rcases hr with ⟨h1, h2⟩ | ⟨h1, h2⟩; exact h2; omega⟩) (by rw [← hV, zfo_in (i := i) (by omega), if_pos ⟨by omega, by rcases hr with ⟨h1, h2⟩ | ⟨h1, h2⟩; exact h2; omega, by omega, by omega⟩])
  exact L11 0 (by omega) (zthD D) (-6) (zthD_64 D) (Or.inl rfl) rfl

set_option maxRecDepth 100000 in
set_option maxHeartbeats 4000000 in
theorem ct_X11_fault {μ : zMem} {D : zBk} {K0 K1 : Option zBk} (hM : zMd D K0 K1 μ) {v : Int} (hv : zr v) : Ci kX11_fault 3 150 zSX [zP 127, zI v] μ (fun a μ' => a = zflt D v ∧ μ' = μ) := by
  refine Ct.of [some (zP 127), some (zI v)] rfl (Nat.le_of_ble_eq_true rfl) (by decide +kernel) (fun Γ ad hO hR => ?_)
  refine zY.iload_n hO dX11_fault_0 rfl ?_
  by_cases e1_0 : v = 0
  ·
    refine zY.tswIn (off := 31) (tgt := 32) hv (by omega) (by omega) (by rw [e1_0]; rfl) (by decide) hO dX11_fault_1 ?_
    refine zY.aload_n hO dX11_fault_32 rfl ?_
    refine zY.bipush hO dX11_fault_33 (by decide) ?_
    refine zY.bipush hO dX11_fault_35 (by decide) ?_
    refine zY.iconst hO dX11_fault_37 ?_
    refine zY.callV3iD (ct_X11_faultOfRow (most := 5) hM ⟨by omega, by omega⟩ ⟨by omega, by omega⟩ (by omega)) (by decide) zcal_X11_faultOfRow zml_X11_104 (by decide : 127 < 150) rfl rfl (Nat.le_of_ble_eq_true rfl) rfl ⟨Nat.zero_le _, Nat.zero_le _⟩ hO dX11_fault_38 ?_
    exact zY.iret rfl ⟨_, rfl, ⟨by unfold zflt; rw [if_pos (by omega)], rfl⟩⟩ hR hO dX11_fault_41
  ·
    by_cases e1_1 : v = 1
    ·
      refine zY.tswIn (off := 41) (tgt := 42) hv (by omega) (by omega) (by rw [e1_1]; rfl) (by decide) hO dX11_fault_1 ?_
      refine zY.aload_n hO dX11_fault_42 rfl ?_
      refine zY.bipush hO dX11_fault_43 (by decide) ?_
      refine zY.bipush hO dX11_fault_45 (by decide) ?_
      refine zY.bipush hO dX11_fault_47 (by decide) ?_
      refine zY.callV3iD (ct_X11_faultOfRow (most := 6) hM ⟨by omega, by omega⟩ ⟨by omega, by omega⟩ (by omega)) (by decide) zcal_X11_faultOfRow zml_X11_104 (by decide : 127 < 150) rfl rfl (Nat.le_of_ble_eq_true rfl) rfl ⟨Nat.zero_le _, Nat.zero_le _⟩ hO dX11_fault_49 ?_
      exact zY.iret rfl ⟨_, rfl, ⟨by unfold zflt; rw [if_neg (by omega), if_pos (by omega)], rfl⟩⟩ hR hO dX11_fault_52
    ·
      by_cases e1_2 : v = 2
      ·
        refine zY.tswIn (off := 52) (tgt := 53) hv (by omega) (by omega) (by rw [e1_2]; rfl) (by decide) hO dX11_fault_1 ?_
        refine zY.aload_n hO dX11_fault_53 rfl ?_
        refine zY.iconst hO dX11_fault_54 ?_
        refine zY.callV1iD (ct_X11_faultOfOrders (two := false) hM) (by decide) zcal_X11_faultOfOrders zml_X11_108 (by decide : 127 < 150) rfl rfl (Nat.le_of_ble_eq_true rfl) rfl ⟨Nat.zero_le _, Nat.zero_le _⟩ hO dX11_fault_55 ?_
        exact zY.iret rfl ⟨_, rfl, ⟨by unfold zflt; rw [if_neg (by omega), if_neg (by omega), if_pos (by omega)], rfl⟩⟩ hR hO dX11_fault_58
      ·
        by_cases e1_3 : v = 3
        ·
          refine zY.tswIn (off := 58) (tgt := 59) hv (by omega) (by omega) (by rw [e1_3]; rfl) (by decide) hO dX11_fault_1 ?_
          refine zY.aload_n hO dX11_fault_59 rfl ?_
          refine zY.iconst hO dX11_fault_60 ?_
          refine zY.callV1iD (ct_X11_faultOfOrders (two := true) hM) (by decide) zcal_X11_faultOfOrders zml_X11_108 (by decide : 127 < 150) rfl rfl (Nat.le_of_ble_eq_true rfl) rfl ⟨Nat.zero_le _, Nat.zero_le _⟩ hO dX11_fault_61 ?_
          exact zY.iret rfl ⟨_, rfl, ⟨by unfold zflt; rw [if_neg (by omega), if_neg (by omega), if_neg (by omega), if_pos (by omega)], rfl⟩⟩ hR hO dX11_fault_64
        ·
          refine zY.tswOut (tgt := 65) hv (by omega) (by decide) hO dX11_fault_1 ?_
          refine zY.bipush hO dX11_fault_65 (by decide) ?_
          exact zY.iret rfl ⟨_, rfl, ⟨by unfold zflt; rw [if_neg (by omega), if_neg (by omega), if_neg (by omega), if_neg (by omega)], rfl⟩⟩ hR hO dX11_fault_67

set_option maxRecDepth 100000 in
set_option maxHeartbeats 4000000 in
theorem ct_X11_take {μ : zMem} {D : zBk} {K0 K1 : Option zBk} (hM : zMd D K0 K1 μ) {v : Int} (hv : zr v) : Ci kX11_take 3 150 zSX [zP 127, zI v] μ (fun a μ' => a = zA_take D v ∧ zMd (zU_take D v) K0 K1 μ' ∧ (∀ q, q < 127 → μ' q = μ q)) := by
  refine Ct.of [some (zP 127), some (zI v), none] rfl (Nat.le_of_ble_eq_true rfl) (by decide +kernel) (fun Γ ad hO hR => ?_)
  refine zY.iload_n hO dX11_take_0 rfl ?_
  refine zY.callS1iD (ct_X11_isSheet hv) (by decide) zcal_X11_isSheet zml_X11_120 (Nat.le_of_ble_eq_true rfl) rfl ⟨Nat.zero_le _, Nat.zero_le _⟩ hO dX11_take_1 ?_
  refine zY.if_ne (tgt := 9) zr_b hO dX11_take_4 (by decide) (fun c4 => ?_) (fun c4 => ?_)
  ·
    replace c4 := zb1.mp c4
    obtain ⟨vq, hvq⟩ : ∃ vq : Nat, v = (vq : Int) := ⟨v.toNat, by omega⟩
    refine zY.aload_n hO dX11_take_9 rfl ?_
    refine zY.getR zfl_X11_22 (by decide : 127 < 150) rfl rfl hO dX11_take_10 ?_
    refine zY.iload_n hO dX11_take_13 rfl ?_
    refine zY.iald (vq) hvq (by omega) (by decide) (by decide : 132 < 150) rfl hO dX11_take_14 ?_
    refine zY.istore2 (zc1_I _) hO dX11_take_15 ?_
    refine zY.aload_n hO dX11_take_16 rfl ?_
    refine zY.getR zfl_X11_22 (by decide : 127 < 150) rfl rfl hO dX11_take_17 ?_
    refine zY.iload_n hO dX11_take_20 rfl ?_
    refine zY.iconst hO dX11_take_21 ?_
    refine zY.iast (vq) hvq (by omega) (by decide) (by decide : 132 < 150) rfl hO dX11_take_22 ?_
    refine zY.iload_n hO dX11_take_23 rfl ?_
    exact zY.iret rfl ⟨_, rfl, ⟨by unfold zA_take; rw [if_pos c4, hvq, Int.toNat_natCast]; exact hM.2.1.1 4 (by omega) (by omega) vq (by omega), by unfold zU_take; rw [if_pos c4, hvq, Int.toNat_natCast]; exact zMd_set (t := 4) hM (zWF_set4 hM.1) (by omega), fun q hq => zwr_ne (by omega)⟩⟩ hR hO dX11_take_24
  ·
    replace c4 := zb0.mp c4
    refine zY.iconst hO dX11_take_7 ?_
    exact zY.iret rfl ⟨_, rfl, ⟨by unfold zA_take; rw [if_neg c4], by unfold zU_take; rw [if_neg c4]; exact hM, fun _ _ => rfl⟩⟩ hR hO dX11_take_8

set_option maxRecDepth 100000 in
set_option maxHeartbeats 4000000 in
theorem ct_X11_lay {μ : zMem} {D : zBk} {K0 K1 : Option zBk} (hM : zMd D K0 K1 μ) {s v : Int} (hs : zr s) (hv : zr v) : Ci kX11_lay 3 150 zSX [zP 127, zI s, zI v] μ (fun a μ' => a = zA_lay D s v ∧ zMd (zU_lay D s v) K0 K1 μ' ∧ (∀ q, q < 127 → μ' q = μ q)) := by
  refine Ct.of [some (zP 127), some (zI s), some (zI v), none] rfl (Nat.le_of_ble_eq_true rfl) (by decide +kernel) (fun Γ ad hO hR => ?_)
  refine zY.iload_n hO dX11_lay_0 rfl ?_
  refine zY.callS1iD (ct_X11_isSort hs) (by decide) zcal_X11_isSort zml_X11_125 (Nat.le_of_ble_eq_true rfl) rfl ⟨Nat.zero_le _, Nat.zero_le _⟩ hO dX11_lay_1 ?_
  refine zY.if_ne (tgt := 9) zr_b hO dX11_lay_4 (by decide) (fun c4 => ?_) (fun c4 => ?_)
  ·
    replace c4 := zb1.mp c4
    obtain ⟨sq, hsq⟩ : ∃ sq : Nat, s = (sq : Int) := ⟨s.toNat, by omega⟩
    refine zY.iload_n hO dX11_lay_9 rfl ?_
    refine zY.i2l hv hO dX11_lay_10 ?_
    refine zY.lconst0 hO dX11_lay_11 ?_
    refine zY.ldc2 hO zcl_X11_128 dX11_lay_12 ?_
    refine zY.callS3iD (ct_X11_in ⟨by omega, by omega⟩ ⟨by omega, by omega⟩ ⟨by omega, by omega⟩) (by decide) zcal_X11_in zml_X11_83 (Nat.le_of_ble_eq_true rfl) rfl ⟨Nat.zero_le _, Nat.zero_le _⟩ hO dX11_lay_15 ?_
    refine zY.if_ne (tgt := 24) zr_b hO dX11_lay_18 (by decide) (fun c18 => ?_) (fun c18 => ?_)
    ·
      replace c18 := zb1.mp c18
      refine zY.aload_n hO dX11_lay_24 rfl ?_
      refine zY.getR zfl_X11_25 (by decide : 127 < 150) rfl rfl hO dX11_lay_25 ?_
      refine zY.iload_n hO dX11_lay_28 rfl ?_
      refine zY.iald (sq) hsq (by omega) (by decide) (by decide : 133 < 150) rfl hO dX11_lay_29 ?_
      refine zY.istore3 (zc1_I _) hO dX11_lay_30 ?_
      refine zY.aload_n hO dX11_lay_31 rfl ?_
      refine zY.getR zfl_X11_25 (by decide : 127 < 150) rfl rfl hO dX11_lay_32 ?_
      refine zY.iload_n hO dX11_lay_35 rfl ?_
      refine zY.iload_n hO dX11_lay_36 rfl ?_
      refine zY.iast (sq) hsq (by omega) (by decide) (by decide : 133 < 150) rfl hO dX11_lay_37 ?_
      refine zY.iload_n hO dX11_lay_38 rfl ?_
      exact zY.iret rfl ⟨_, rfl, ⟨by unfold zA_lay; rw [if_pos c4, if_pos c18, hsq, Int.toNat_natCast]; exact hM.2.1.1 5 (by omega) (by omega) sq (by omega), by unfold zU_lay; rw [if_pos ⟨c4, c18⟩, hsq, Int.toNat_natCast]; exact zMd_set (t := 5) hM (zWF_set5 hM.1 c18) (by omega), fun q hq => zwr_ne (by omega)⟩⟩ hR hO dX11_lay_39
    ·
      replace c18 := zb0.mp c18
      refine zY.bipush hO dX11_lay_21 (by decide) ?_
      exact zY.iret rfl ⟨_, rfl, ⟨by unfold zA_lay; rw [if_pos c4, if_neg c18], by unfold zU_lay; rw [if_neg (fun z => c18 z.2)]; exact hM, fun _ _ => rfl⟩⟩ hR hO dX11_lay_23
  ·
    replace c4 := zb0.mp c4
    refine zY.iconst hO dX11_lay_7 ?_
    exact zY.iret rfl ⟨_, rfl, ⟨by unfold zA_lay; rw [if_neg c4], by unfold zU_lay; rw [if_neg (fun z => c4 z.1)]; exact hM, fun _ _ => rfl⟩⟩ hR hO dX11_lay_8

set_option maxRecDepth 100000 in
set_option maxHeartbeats 4000000 in
theorem ct_X11_stand {μ : zMem} {D : zBk} {K0 K1 : Option zBk} (hM : zMd D K0 K1 μ) {v o : Int} (hv : zr v) (ho : zr o) : Ci kX11_stand 3 150 zSX [zP 127, zI v, zI o] μ (fun a μ' => a = zA_stand D v o ∧ zMd (zU_stand D v o) K0 K1 μ' ∧ (∀ q, q < 127 → μ' q = μ q)) := by
  refine Ct.of [some (zP 127), some (zI v), some (zI o), none] rfl (Nat.le_of_ble_eq_true rfl) (by decide +kernel) (fun Γ ad hO hR => ?_)
  refine zY.iload_n hO dX11_stand_0 rfl ?_
  refine zY.callS1iD (ct_X11_isWord hv) (by decide) zcal_X11_isWord zml_X11_112 (Nat.le_of_ble_eq_true rfl) rfl ⟨Nat.zero_le _, Nat.zero_le _⟩ hO dX11_stand_1 ?_
  refine zY.if_ne (tgt := 9) zr_b hO dX11_stand_4 (by decide) (fun c4 => ?_) (fun c4 => ?_)
  ·
    replace c4 := zb1.mp c4
    obtain ⟨vq, hvq⟩ : ∃ vq : Nat, v = (vq : Int) := ⟨v.toNat, by omega⟩
    refine zY.iload_n hO dX11_stand_9 rfl ?_
    refine zY.i2l ho hO dX11_stand_10 ?_
    refine zY.ldc2 hO zcl_X11_123 dX11_stand_11 ?_
    refine zY.ldc2 hO zcl_X11_81 dX11_stand_14 ?_
    refine zY.callS3iD (ct_X11_in ⟨by omega, by omega⟩ ⟨by omega, by omega⟩ ⟨by omega, by omega⟩) (by decide) zcal_X11_in zml_X11_83 (Nat.le_of_ble_eq_true rfl) rfl ⟨Nat.zero_le _, Nat.zero_le _⟩ hO dX11_stand_17 ?_
    refine zY.if_eq (tgt := 28) zr_b hO dX11_stand_20 (by decide) (fun c20 => ?_) (fun c20 => ?_)
    ·
      replace c20 := zb0.mp c20
      refine zY.bipush hO dX11_stand_28 (by decide) ?_
      exact zY.iret rfl ⟨_, rfl, ⟨by unfold zA_stand; rw [if_pos c4, if_neg (fun z => by omega)], by unfold zU_stand; rw [if_neg (fun z => by omega)]; exact hM, fun _ _ => rfl⟩⟩ hR hO dX11_stand_30
    ·
      replace c20 := zb1.mp c20
      refine zY.iload_n hO dX11_stand_23 rfl ?_
      refine zY.iload_n hO dX11_stand_24 rfl ?_
      refine zY.icmp_ne (tgt := 31) ho hv hO dX11_stand_25 (by decide) (fun c25 => ?_) (fun c25 => ?_)
      ·
        refine zY.aload_n hO dX11_stand_31 rfl ?_
        refine zY.getR zfl_X11_16 (by decide : 127 < 150) rfl rfl hO dX11_stand_32 ?_
        refine zY.iload_n hO dX11_stand_35 rfl ?_
        refine zY.iald (vq) hvq (by omega) (by decide) (by decide : 130 < 150) rfl hO dX11_stand_36 ?_
        refine zY.istore3 (zc1_I _) hO dX11_stand_37 ?_
        refine zY.aload_n hO dX11_stand_38 rfl ?_
        refine zY.getR zfl_X11_16 (by decide : 127 < 150) rfl rfl hO dX11_stand_39 ?_
        refine zY.iload_n hO dX11_stand_42 rfl ?_
        refine zY.iload_n hO dX11_stand_43 rfl ?_
        refine zY.iconst hO dX11_stand_44 ?_
        refine zY.icmp_ne (tgt := 53) ho ⟨by omega, by omega⟩ hO dX11_stand_45 (by decide) (fun c45 => ?_) (fun c45 => ?_)
        ·
          refine zY.iload_n hO dX11_stand_53 rfl ?_
          refine zY.iast (vq) hvq (by omega) (by decide) (by decide : 130 < 150) rfl hO dX11_stand_54 ?_
          refine zY.iload_n hO dX11_stand_55 rfl ?_
          exact zY.iret rfl ⟨_, rfl, ⟨by unfold zA_stand; rw [if_pos c4, if_pos ⟨c20, by omega⟩, hvq, Int.toNat_natCast]; exact hM.2.1.2.1 2 (by omega) (by omega) vq (by omega), by unfold zU_stand; rw [if_pos ⟨c4, c20, by omega⟩, if_neg (by omega), hvq, Int.toNat_natCast]; exact zMd_set (t := 2) hM (zWF_set2 hM.1 (by omega)) (by omega), fun q hq => zwr_ne (by omega)⟩⟩ hR hO dX11_stand_56
        ·
          refine zY.bipush hO dX11_stand_48 (by decide) ?_
          refine zY.goto (tgt := 54) hO dX11_stand_50 (by decide) ?_
          refine zY.iast (vq) hvq (by omega) (by decide) (by decide : 130 < 150) rfl hO dX11_stand_54 ?_
          refine zY.iload_n hO dX11_stand_55 rfl ?_
          exact zY.iret rfl ⟨_, rfl, ⟨by unfold zA_stand; rw [if_pos c4, if_pos ⟨c20, by omega⟩, hvq, Int.toNat_natCast]; exact hM.2.1.2.1 2 (by omega) (by omega) vq (by omega), by unfold zU_stand; rw [if_pos ⟨c4, c20, by omega⟩, if_pos (by omega), hvq, Int.toNat_natCast]; exact zMd_set (t := 2) hM (zWF_set2 hM.1 (by omega)) (by omega), fun q hq => zwr_ne (by omega)⟩⟩ hR hO dX11_stand_56
      ·
        refine zY.bipush hO dX11_stand_28 (by decide) ?_
        exact zY.iret rfl ⟨_, rfl, ⟨by unfold zA_stand; rw [if_pos c4, if_neg (fun z => by omega)], by unfold zU_stand; rw [if_neg (fun z => by omega)]; exact hM, fun _ _ => rfl⟩⟩ hR hO dX11_stand_30
  ·
    replace c4 := zb0.mp c4
    refine zY.iconst hO dX11_stand_7 ?_
    exact zY.iret rfl ⟨_, rfl, ⟨by unfold zA_stand; rw [if_neg c4], by unfold zU_stand; rw [if_neg (fun z => c4 z.1)]; exact hM, fun _ _ => rfl⟩⟩ hR hO dX11_stand_8

set_option maxRecDepth 100000 in
set_option maxHeartbeats 4000000 in
theorem ct_X11_seen {μ : zMem} {D : zBk} {K0 K1 : Option zBk} (hM : zMd D K0 K1 μ) {s v : Int} (hs : zr s) (hv : zr v) : Ci kX11_seen 3 150 zSX [zP 127, zI s, zI v] μ (fun a μ' => a = zA_seen D s v ∧ zMd (zU_seen D s v) K0 K1 μ' ∧ (∀ q, q < 127 → μ' q = μ q)) := by
  refine Ct.of [some (zP 127), some (zI s), some (zI v), none] rfl (Nat.le_of_ble_eq_true rfl) (by decide +kernel) (fun Γ ad hO hR => ?_)
  refine zY.iload_n hO dX11_seen_0 rfl ?_
  refine zY.callS1iD (ct_X11_isSheet hs) (by decide) zcal_X11_isSheet zml_X11_120 (Nat.le_of_ble_eq_true rfl) rfl ⟨Nat.zero_le _, Nat.zero_le _⟩ hO dX11_seen_1 ?_
  refine zY.if_ne (tgt := 9) zr_b hO dX11_seen_4 (by decide) (fun c4 => ?_) (fun c4 => ?_)
  ·
    replace c4 := zb1.mp c4
    obtain ⟨sq, hsq⟩ : ∃ sq : Nat, s = (sq : Int) := ⟨s.toNat, by omega⟩
    refine zY.iload_n hO dX11_seen_9 rfl ?_
    refine zY.i2l hv hO dX11_seen_10 ?_
    refine zY.ldc2 hO zcl_X11_123 dX11_seen_11 ?_
    refine zY.ldc2 hO zcl_X11_246 dX11_seen_14 ?_
    refine zY.callS3iD (ct_X11_in ⟨by omega, by omega⟩ ⟨by omega, by omega⟩ ⟨by omega, by omega⟩) (by decide) zcal_X11_in zml_X11_83 (Nat.le_of_ble_eq_true rfl) rfl ⟨Nat.zero_le _, Nat.zero_le _⟩ hO dX11_seen_17 ?_
    refine zY.if_ne (tgt := 26) zr_b hO dX11_seen_20 (by decide) (fun c20 => ?_) (fun c20 => ?_)
    ·
      replace c20 := zb1.mp c20
      refine zY.aload_n hO dX11_seen_26 rfl ?_
      refine zY.getR zfl_X11_31 (by decide : 127 < 150) rfl rfl hO dX11_seen_27 ?_
      refine zY.iload_n hO dX11_seen_30 rfl ?_
      refine zY.iald (sq) hsq (by omega) (by decide) (by decide : 135 < 150) rfl hO dX11_seen_31 ?_
      refine zY.istore3 (zc1_I _) hO dX11_seen_32 ?_
      refine zY.aload_n hO dX11_seen_33 rfl ?_
      refine zY.getR zfl_X11_31 (by decide : 127 < 150) rfl rfl hO dX11_seen_34 ?_
      refine zY.iload_n hO dX11_seen_37 rfl ?_
      refine zY.iload_n hO dX11_seen_38 rfl ?_
      refine zY.iconst hO dX11_seen_39 ?_
      refine zY.icmp_ne (tgt := 48) hv ⟨by omega, by omega⟩ hO dX11_seen_40 (by decide) (fun c40 => ?_) (fun c40 => ?_)
      ·
        refine zY.iload_n hO dX11_seen_48 rfl ?_
        refine zY.iast (sq) hsq (by omega) (by decide) (by decide : 135 < 150) rfl hO dX11_seen_49 ?_
        refine zY.iload_n hO dX11_seen_50 rfl ?_
        exact zY.iret rfl ⟨_, rfl, ⟨by unfold zA_seen; rw [if_pos c4, if_pos c20, hsq, Int.toNat_natCast]; exact hM.2.1.1 7 (by omega) (by omega) sq (by omega), by unfold zU_seen; rw [if_pos ⟨c4, c20⟩, if_neg (by omega), hsq, Int.toNat_natCast]; exact zMd_set (t := 7) hM (zWF_set7 hM.1 (by omega)) (by omega), fun q hq => zwr_ne (by omega)⟩⟩ hR hO dX11_seen_51
      ·
        refine zY.bipush hO dX11_seen_43 (by decide) ?_
        refine zY.goto (tgt := 49) hO dX11_seen_45 (by decide) ?_
        refine zY.iast (sq) hsq (by omega) (by decide) (by decide : 135 < 150) rfl hO dX11_seen_49 ?_
        refine zY.iload_n hO dX11_seen_50 rfl ?_
        exact zY.iret rfl ⟨_, rfl, ⟨by unfold zA_seen; rw [if_pos c4, if_pos c20, hsq, Int.toNat_natCast]; exact hM.2.1.1 7 (by omega) (by omega) sq (by omega), by unfold zU_seen; rw [if_pos ⟨c4, c20⟩, if_pos (by omega), hsq, Int.toNat_natCast]; exact zMd_set (t := 7) hM (zWF_set7 hM.1 (by omega)) (by omega), fun q hq => zwr_ne (by omega)⟩⟩ hR hO dX11_seen_51
    ·
      replace c20 := zb0.mp c20
      refine zY.bipush hO dX11_seen_23 (by decide) ?_
      exact zY.iret rfl ⟨_, rfl, ⟨by unfold zA_seen; rw [if_pos c4, if_neg c20], by unfold zU_seen; rw [if_neg (fun z => c20 z.2)]; exact hM, fun _ _ => rfl⟩⟩ hR hO dX11_seen_25
  ·
    replace c4 := zb0.mp c4
    refine zY.iconst hO dX11_seen_7 ?_
    exact zY.iret rfl ⟨_, rfl, ⟨by unfold zA_seen; rw [if_neg c4], by unfold zU_seen; rw [if_neg (fun z => c4 z.1)]; exact hM, fun _ _ => rfl⟩⟩ hR hO dX11_seen_8
