/-! Changer -/
def zBc (D : zBk) (n : Nat) (μ : zMem) : Prop := ∀ p ch, ch < 64 → 64 * p + ch < n → (zokc D (zord D p) ch → ∀ x, x < 6 → μ 99 (6 * (64 * p + ch) + x) = znd D (zord D p) ch x) ∧ μ 101 (64 * p + ch) = zbx D (zord D p) ch
theorem zBc.row {D : zBk} {n : Nat} {μ μ' : zMem} (h : zBc D n μ) (h1 : μ' 99 = μ 99) (h2 : μ' 101 = μ 101) : zBc D n μ' := by
  intro p ch a b
  rw [h1, h2]
  exact h p ch a b
def zCho (μ : zMem) : Prop := ∀ j, j < 77 → μ 108 j = zcht j
def zCg (D : zBk) (f : Nat → Int) (μ : zMem) : Prop := zBc D (64 * zN D) μ ∧ (∀ x, x < 6 → μ 104 x = D 5 x ∧ μ 106 x = f x) ∧ μ 96 4 = (zN D : Int) ∧ zCho μ ∧ zmm D (μ 109)
theorem zCg.row {D : zBk} {f f2 g l : Nat → Int} {μ : zMem} (h : zCg D f μ) (hg : ∀ x, x < 6 → g x = f2 x) (hl : zmm D l) : zCg D f2 (zrow (zrow μ 106 g) 109 l) :=
  ⟨h.1.row (by rw [zrow_ne (by decide), zrow_ne (by decide)]) (by rw [zrow_ne (by decide), zrow_ne (by decide)]),
   fun x hx => ⟨by rw [zrow_ne (by decide), zrow_ne (by decide)]; exact (h.2.1 x hx).1, by rw [zrow_ne (by decide), zrow_eq]; exact hg x hx⟩,
   by rw [zrow_ne (by decide), zrow_ne (by decide)]; exact h.2.2.1, fun j hj => by rw [zrow_ne (by decide), zrow_ne (by decide)]; exact h.2.2.2.1 j hj, by rw [zrow_eq]; exact hl⟩
theorem zrow2 {μ : zMem} {g l g2 l2 : Nat → Int} : zrow (zrow (zrow (zrow μ 106 g) 109 l) 106 g2) 109 l2 = zrow (zrow μ 106 g2) 109 l2 := by
  funext q' j'
  by_cases e1 : q' = 109 <;> by_cases e2 : q' = 106 <;> simp [zrow, e1, e2]
theorem zsum_ext {f f2 : Nat → Int} {v : Nat} : ∀ k, v < k → (∀ x, x < k → f2 x = if x = v then f x + 1 else f x) → zsum f2 k = zsum f k + 1
  | 0, h, _ => by omega
  | k + 1, h, hx => by
    simp only [zsum]
    by_cases e : v = k
    · subst e
      rw [zsum_congr (g := f) v (fun x hxv => by rw [hx x (by omega), if_neg (by omega)]), hx v (by omega), if_pos rfl]
      omega
    · rw [zsum_ext k (by omega) (fun x hxk => hx x (by omega)), hx k (by omega), if_neg (fun z => e z.symm)]
      omega
/-- one more is lost -/
theorem zfit.next {D : zBk} {p v : Nat} {f : Nat → Int} (h : zfit D p f) (hv : v < 6) (h0 : 0 < f v) : zfit D (p + 1) (zls f (v : Int)) := by
  refine ⟨fun x hx => ?_, ?_⟩
  · have := h.1 x hx
    unfold zls
    split <;> omega
  · rw [zsum_ext (f := fun t => D 5 t - f t) (v := v) 6 hv (fun x hx => ?_), h.2]
    · omega
    · show D 5 x - zls f (v : Int) x = if x = v then D 5 x - f x + 1 else D 5 x - f x
      unfold zls
      by_cases e : x = v
      · rw [if_pos e, if_pos ⟨by omega, by rw [e]; exact h0⟩]; omega
      · rw [if_neg e, if_neg (fun z => by omega)]

set_option maxRecDepth 100000 in
set_option maxHeartbeats 4000000 in
theorem ct_X1_shiftOf {nn : Nat} {sh : Nat → zShc} {μ : zMem} {p : Nat} (hp : p < 6) : Ci kX1_shiftOf 1 nn sh [zI (p : Int)] μ (fun r μ' => r = ((6 * (5 - p) : Nat) : Int) ∧ μ' = μ) := by
  refine Ct.of [some (zI (p : Int))] rfl (Nat.le_of_ble_eq_true rfl) (by decide +kernel) (fun Γ ad hO hR => ?_)
  refine zY.iconst hO dX1_shiftOf_0 ?_
  refine zY.iload_n hO dX1_shiftOf_1 rfl ?_
  refine zY.isub hO dX1_shiftOf_2 ?_
  refine zY.bipush hO dX1_shiftOf_3 (by decide) ?_
  refine zY.imul hO dX1_shiftOf_5 ?_
  refine zY.as (b := ((6 * (5 - p) : Nat) : Int)) (by omega) ?_
  exact zY.iret rfl ⟨_, rfl, ⟨rfl, rfl⟩⟩ hR hO dX1_shiftOf_6

set_option maxRecDepth 100000 in
set_option maxHeartbeats 4000000 in
theorem ct_X1_howMany {μ : zMem} {wq : Nat} (hw : μ 96 5 = (wq : Int)) (hb : wq ≤ 1152921504606846976) : Ci kX1_howMany 1 150 zSX [zP 96] μ (fun r μ' => r = (if (wq : Int) < 1152921504606846976 then (wq : Int) / 68719476736 else -6) ∧ μ' = μ) := by
  refine Ct.of [some (zP 96)] rfl (Nat.le_of_ble_eq_true rfl) (by decide +kernel) (fun Γ ad hO hR => ?_)
  refine zY.aload_n hO dX1_howMany_0 rfl ?_
  refine zY.getJ zfl_X1_44 (by decide : 96 < 150) rfl rfl hO dX1_howMany_1 ?_
  refine zY.asJ (b := (wq : Int)) hw ?_
  refine zY.ldc2 hO zcl_X1_42 dX1_howMany_4 ?_
  refine zY.lcmp ⟨by omega, by omega⟩ ⟨by omega, by omega⟩ hO dX1_howMany_7 ?_
  refine zY.if_ge (tgt := 22) zlc_r hO dX1_howMany_8 (by decide) (fun c8 => ?_) (fun c8 => ?_)
  ·
    have hge := zlc_ge.mp c8
    refine zY.bipush hO dX1_howMany_22 (by decide) ?_
    exact zY.iret rfl ⟨_, rfl, ⟨by rw [if_neg (by omega)], rfl⟩⟩ hR hO dX1_howMany_24
  ·
    have hlt : (wq : Int) < 1152921504606846976 := by
      rcases Int.lt_or_le (wq : Int) 1152921504606846976 with hz | hz
      · exact hz
      · exact absurd (zlc_ge.mpr hz) c8
    refine zY.aload_n hO dX1_howMany_11 rfl ?_
    refine zY.getJ zfl_X1_44 (by decide : 96 < 150) rfl rfl hO dX1_howMany_12 ?_
    refine zY.asJ (b := (wq : Int)) hw ?_
    refine zY.bipush hO dX1_howMany_15 (by decide) ?_
    refine zY.lshr (c := ((wq / 2 ^ 36 : Nat) : Int)) (zshr (k := 36) (by omega) (by decide) (zshk 36 (by decide))) hO dX1_howMany_17 ?_
    refine zY.l2i hO dX1_howMany_18 ?_
    refine zY.goto (tgt := 24) hO dX1_howMany_19 (by decide) ?_
    exact zY.iret rfl ⟨_, rfl, ⟨by rw [if_pos hlt]; omega, rfl⟩⟩ hR hO dX1_howMany_24

set_option maxRecDepth 100000 in
set_option maxHeartbeats 4000000 in
theorem ct_X1_placesOf {μ : zMem} {wq p : Nat} (hp : p < 6) (hw : μ 96 5 = (wq : Int)) (hb : wq ≤ 1152921504606846976) : Ci kX1_placesOf 2 150 zSX [zP 96, zI (p : Int)] μ (fun r μ' => r = (if (wq : Int) < 1152921504606846976 then (wq : Int) / ((2 ^ (6 * (5 - p)) : Nat) : Int) % 64 else -6) ∧ μ' = μ) := by
  refine Ct.of [some (zP 96), some (zI (p : Int))] rfl (Nat.le_of_ble_eq_true rfl) (by decide +kernel) (fun Γ ad hO hR => ?_)
  refine zY.aload_n hO dX1_placesOf_0 rfl ?_
  refine zY.getJ zfl_X1_44 (by decide : 96 < 150) rfl rfl hO dX1_placesOf_1 ?_
  refine zY.asJ (b := (wq : Int)) hw ?_
  refine zY.ldc2 hO zcl_X1_42 dX1_placesOf_4 ?_
  refine zY.lcmp ⟨by omega, by omega⟩ ⟨by omega, by omega⟩ hO dX1_placesOf_7 ?_
  refine zY.if_ge (tgt := 27) zlc_r hO dX1_placesOf_8 (by decide) (fun c8 => ?_) (fun c8 => ?_)
  ·
    have hge := zlc_ge.mp c8
    refine zY.bipush hO dX1_placesOf_27 (by decide) ?_
    exact zY.iret rfl ⟨_, rfl, ⟨by rw [if_neg (by omega)], rfl⟩⟩ hR hO dX1_placesOf_29
  ·
    have hlt : (wq : Int) < 1152921504606846976 := by
      rcases Int.lt_or_le (wq : Int) 1152921504606846976 with hz | hz
      · exact hz
      · exact absurd (zlc_ge.mpr hz) c8
    refine zY.aload_n hO dX1_placesOf_11 rfl ?_
    refine zY.getJ zfl_X1_44 (by decide : 96 < 150) rfl rfl hO dX1_placesOf_12 ?_
    refine zY.asJ (b := (wq : Int)) hw ?_
    refine zY.iload_n hO dX1_placesOf_15 rfl ?_
    refine zY.callS1iD (ct_X1_shiftOf hp) (by decide) zcal_X1_shiftOf zml_X1_84 (Nat.le_of_ble_eq_true rfl) rfl ⟨Nat.zero_le _, Nat.zero_le _⟩ hO dX1_placesOf_16 ?_
    refine zY.lshr (c := ((wq / 2 ^ (6 * (5 - p)) : Nat) : Int)) (zshr (k := 6 * (5 - p)) (by omega) (by omega) (zshk _ (by omega))) hO dX1_placesOf_19 ?_
    refine zY.l2i hO dX1_placesOf_20 ?_
    refine zY.bipush hO dX1_placesOf_21 (by decide) ?_
    refine zY.iand (c := ((wq / 2 ^ (6 * (5 - p)) % 64 : Nat) : Int)) (zmod64 _) hO dX1_placesOf_23 ?_
    refine zY.goto (tgt := 29) hO dX1_placesOf_24 (by decide) ?_
    exact zY.iret rfl ⟨_, rfl, ⟨by rw [if_pos hlt]; rw [Int.natCast_emod, Int.natCast_ediv]; rfl, rfl⟩⟩ hR hO dX1_placesOf_29

set_option maxRecDepth 100000 in
set_option maxHeartbeats 4000000 in
theorem ct_X1_lossNumber {μ : zMem} {D : zBk} {f : Nat → Int} {p : Nat} (hW : zWF D) (hm : ∀ x, x < 6 → μ 104 x = D 5 x ∧ μ 106 x = f x) (hc : zCho μ) (hf : zfit D p f) (hp : p < 6) : Ci kX1_lossNumber 4 150 zSX [zP 96] μ (fun r μ' => r = znum D f ∧ μ' = μ) := by
  refine Ct.of [some (zP 96), none, none, none] rfl (Nat.le_of_ble_eq_true rfl) (by decide +kernel) (fun Γ ad hO hR => ?_)
  have hlb : ∀ k, k ≤ 6 → 0 ≤ zsum (fun t => D 5 t - f t) k ∧ zsum (fun t => D 5 t - f t) k ≤ p := by
    intro k hk
    have g0 := hf.1 0 (by omega); have g1 := hf.1 1 (by omega); have g2 := hf.1 2 (by omega); have g3 := hf.1 3 (by omega); have g4 := hf.1 4 (by omega); have g5 := hf.1 5 (by omega)
    have hs := hf.2
    simp only [zsum] at hs
    have hk2 : k = 0 ∨ k = 1 ∨ k = 2 ∨ k = 3 ∨ k = 4 ∨ k = 5 ∨ k = 6 := by omega
    rcases hk2 with rfl | rfl | rfl | rfl | rfl | rfl | rfl <;> simp only [zsum] <;> omega
  refine zY.iconst hO dX1_lossNumber_0 ?_
  refine zY.istore1 (zc1_P _) hO dX1_lossNumber_1 ?_
  refine zY.iconst hO dX1_lossNumber_2 ?_
  refine zY.istore2 (zc1_I _) hO dX1_lossNumber_3 ?_
  refine zY.iconst hO dX1_lossNumber_4 ?_
  refine zY.istore3 (zc1_I _) hO dX1_lossNumber_5 ?_
  have L6 : ∀ i : Nat, i ≤ 6 → zY Γ (150, zSX, ad, 0, 0) 6 [some (zP 96), some (zI (zsum (fun s => zcht ((zsum (fun t => D 5 t - f t) (s + 1)).toNat * 7 + s * 7 + s + 1)) i)), some (zI (zsum (fun t => D 5 t - f t) i)), some (zI (i : Int))] [] μ := by
    refine zdown (6) (fun i hi_i ih6 => ?_)
    refine zY.iload_n hO dX1_lossNumber_6 rfl ?_
    refine zY.bipush hO dX1_lossNumber_7 (by decide) ?_
    refine zY.icmp_ge (tgt := 49) ⟨by omega, by omega⟩ ⟨by omega, by omega⟩ hO dX1_lossNumber_9 (by decide) (fun c9 => ?_) (fun c9 => ?_)
    ·
      refine zY.iload_n hO dX1_lossNumber_49 rfl ?_
      exact zY.iret rfl ⟨_, rfl, ⟨by rw [show i = 6 by omega]; rfl, rfl⟩⟩ hR hO dX1_lossNumber_50
    ·
      refine zY.iload_n hO dX1_lossNumber_12 rfl ?_
      refine zY.aload_n hO dX1_lossNumber_13 rfl ?_
      refine zY.getR zfl_X1_23 (by decide : 96 < 150) rfl rfl hO dX1_lossNumber_14 ?_
      refine zY.iload_n hO dX1_lossNumber_17 rfl ?_
      refine zY.callV1iD (ct_X7_lost zst_102 (x := i) (by omega)) (by decide) zcal_X7_lost zml_X1_114 (by decide : 102 < 150) rfl rfl (Nat.le_of_ble_eq_true rfl) rfl ⟨Nat.zero_le _, Nat.zero_le _⟩ hO dX1_lossNumber_18 ?_
      refine zY.as (b := D 5 i - f i) (by rw [show μ (102 + 2) i = D 5 i from (hm i (by omega)).1, show μ (102 + 4) i = f i from (hm i (by omega)).2]) ?_
      refine zY.iadd hO dX1_lossNumber_21 ?_
      refine zY.as (b := zsum (fun t => D 5 t - f t) (i + 1)) rfl ?_
      have hlbi := hlb (i + 1) (by omega)
      refine zY.istore2 (zc1_I _) hO dX1_lossNumber_22 ?_
      refine zY.iload_n hO dX1_lossNumber_23 rfl ?_
      refine zY.aload_n hO dX1_lossNumber_24 rfl ?_
      refine zY.getR zfl_X1_30 (by decide : 96 < 150) rfl rfl hO dX1_lossNumber_25 ?_
      refine zY.iload_n hO dX1_lossNumber_28 rfl ?_
      refine zY.iload_n hO dX1_lossNumber_29 rfl ?_
      refine zY.iadd hO dX1_lossNumber_30 ?_
      refine zY.bipush hO dX1_lossNumber_31 (by decide) ?_
      refine zY.imul hO dX1_lossNumber_33 ?_
      refine zY.iload_n hO dX1_lossNumber_34 rfl ?_
      refine zY.iadd hO dX1_lossNumber_35 ?_
      refine zY.iconst hO dX1_lossNumber_36 ?_
      refine zY.iadd hO dX1_lossNumber_37 ?_
      refine zY.as (b := (((zsum (fun t => D 5 t - f t) (i + 1)).toNat * 7 + i * 7 + i + 1 : Nat) : Int)) (by omega) ?_
      refine zY.callV1iD (ct_atN zrw_107 (j := (zsum (fun t => D 5 t - f t) (i + 1)).toNat * 7 + i * 7 + i + 1) (by omega)) (by decide) zcal_X5_at zml_X1_58 (by decide : 107 < 150) rfl rfl (Nat.le_of_ble_eq_true rfl) rfl ⟨Nat.zero_le _, Nat.zero_le _⟩ hO dX1_lossNumber_38 ?_
      refine zY.as (b := zcht ((zsum (fun t => D 5 t - f t) (i + 1)).toNat * 7 + i * 7 + i + 1)) (hc _ (by omega)) ?_
      refine zY.iadd hO dX1_lossNumber_41 ?_
      refine zY.istore1 (zc1_P _) hO dX1_lossNumber_42 ?_
      refine zY.iinc3 _ rfl (zc1_I _) hO dX1_lossNumber_43 ?_
      refine zY.goto (tgt := 6) hO dX1_lossNumber_46 (by decide) ?_
      exact ih6 (by omega)
  exact L6 0 (by omega)

set_option maxRecDepth 100000 in
set_option maxHeartbeats 4000000 in
theorem ct_X1_searchFrom {μ : zMem} {D : zBk} {f : Nat → Int} {k p : Nat} (hW : zWF D) (hOq : zOrd D) (hk : p + (k + 1) = zN D) (hf : zfit D p f) (hg : zCg D f μ) (hnext : ∀ (f2 : Nat → Int) (μ2 : zMem), zfit D (p + 1) f2 → zCg D f2 μ2 → Cl kX1_leastFrom (7 + 2 * k) 150 zSX [zP 96, zI ((p + 1 : Nat) : Int)] μ2 (fun r μ' => r = zlf D k (p + 1) f2 ∧ ∃ g l, μ' = zrow (zrow μ2 106 g) 109 l ∧ (∀ x, x < 6 → g x = f2 x) ∧ zmm D l)) : Cl kX1_searchFrom (8 + 2 * k) 150 zSX [zP 96, zI (p : Int)] μ (fun r μ' => r = zlf D (k + 1) p f ∧ ∃ g l, μ' = zrow (zrow μ 106 g) 109 l ∧ (∀ x, x < 6 → g x = f x) ∧ zmm D l) := by
  refine Ct.of [some (zP 96), some (zI (p : Int)), none, none, none, none, none, none, none] rfl (Nat.le_of_ble_eq_true rfl) (by decide +kernel) (fun Γ ad hO hR => ?_)
  have hNn := hOq.1
  have hop := hOq.2.1 p (by omega)
  have hG0 : ∀ ch, 0 ≤ (fun ch => if zcan D p ch f then zown p ch + zlf D k (p + 1) (zls f (zbx D (zord D p) ch)) else 1152921504606846976) ch := fun ch => by
    show 0 ≤ (if zcan D p ch f then zown p ch + zlf D k (p + 1) (zls f (zbx D (zord D p) ch)) else 1152921504606846976)
    have h1q := zown_b p ch
    have h2q := zlf_b D k (p + 1) (zls f (zbx D (zord D p) ch))
    split <;> omega
  refine zY.ldc2 hO zcl_X1_42 dX1_searchFrom_0 ?_
  refine zY.lstore2 (zc1_I _) hO dX1_searchFrom_3 ?_
  refine zY.iconst hO dX1_searchFrom_4 ?_
  refine zY.istore4 zc1_N hO dX1_searchFrom_5 ?_
  have L7 : ∀ i : Nat, i ≤ 64 → ∀ (μ1 : zMem) (gq lq : Nat → Int), μ1 = zrow (zrow μ 106 gq) 109 lq → (∀ x, x < 6 → gq x = f x) → zmm D lq → zY Γ (150, zSX, ad, 0, 0) 7 [some (zP 96), some (zI (p : Int)), some (zJ (zmnn (fun ch => if zcan D p ch f then zown p ch + zlf D k (p + 1) (zls f (zbx D (zord D p) ch)) else 1152921504606846976) i)), none, some (zI (i : Int)), none, none, none, none] [] μ1 := by
    refine zdown (64) (fun i hi_i ih7 => ?_)
    intro μ1 gq lq hI hJ hL
    have hg1 : zCg D f μ1 := by rw [hI]; exact hg.row hJ hL
    have hmb := zmnn_b (F := (fun ch => if zcan D p ch f then zown p ch + zlf D k (p + 1) (zls f (zbx D (zord D p) ch)) else 1152921504606846976)) i (fun x _ => hG0 x)
    refine zY.iload hO dX1_searchFrom_7 rfl ?_
    refine zY.bipush hO dX1_searchFrom_9 (by decide) ?_
    refine zY.icmp_ge (tgt := 125) ⟨by omega, by omega⟩ ⟨by omega, by omega⟩ hO dX1_searchFrom_11 (by decide) (fun c11 => ?_) (fun c11 => ?_)
    ·
      refine zY.lload_n hO dX1_searchFrom_125 rfl ?_
      exact zY.lret rfl ⟨_, rfl, ⟨by rw [show i = 64 by omega]; rfl, gq, lq, hI, hJ, hL⟩⟩ hR hO dX1_searchFrom_126
    ·
      have hbil := hg1.1 p i (by omega) (by omega)
      have hbx := zbx_b i hW hop.2.1
      have hob := zown_b p i
      have hod := zlb_d p (by omega) i (by omega)
      have hpcb := zpc_b i
      refine zY.iload_n hO dX1_searchFrom_14 rfl ?_
      refine zY.bipush hO dX1_searchFrom_15 (by decide) ?_
      refine zY.imul hO dX1_searchFrom_17 ?_
      refine zY.iload hO dX1_searchFrom_18 rfl ?_
      refine zY.iadd hO dX1_searchFrom_20 ?_
      refine zY.as (b := ((64 * p + i : Nat) : Int)) (by omega) ?_
      refine zY.istore5 (zc1_I _) hO dX1_searchFrom_21 ?_
      refine zY.aload_n hO dX1_searchFrom_23 rfl ?_
      refine zY.getR zfl_X1_16 (by decide : 96 < 150) rfl rfl hO dX1_searchFrom_24 ?_
      refine zY.iload hO dX1_searchFrom_27 rfl ?_
      refine zY.callV1iD (ct_X0_broken zbl_97 (β := 64 * p + i) (by omega)) (by omega) zcal_X0_broken zml_X1_93 (by decide : 97 < 150) rfl rfl (Nat.le_of_ble_eq_true rfl) rfl ⟨Nat.zero_le _, Nat.zero_le _⟩ hO dX1_searchFrom_29 ?_
      refine zY.as (b := zbx D (zord D p) i) hbil.2 ?_
      refine zY.istore6 (zc1_I _) hO dX1_searchFrom_32 ?_
      refine zY.iload hO dX1_searchFrom_34 rfl ?_
      refine zY.callS1iD (ct_bitCount (by omega)) (by omega) zcal_J6_bitCount_0f7a4 zml_X1_96 (Nat.le_of_ble_eq_true rfl) rfl ⟨Nat.zero_le _, Nat.zero_le _⟩ hO dX1_searchFrom_36 ?_
      obtain ⟨mq, hmq⟩ : ∃ mq : Nat, zpc i = (mq : Int) := ⟨(zpc i).toNat, by omega⟩
      refine zY.as hmq ?_
      refine zY.i2l ⟨by omega, by omega⟩ hO dX1_searchFrom_39 ?_
      refine zY.bipush hO dX1_searchFrom_40 (by decide) ?_
      refine zY.lshl (c := ((mq : Int) * 68719476736)) (zlb_a mq (by omega)) hO dX1_searchFrom_42 ?_
      refine zY.iload hO dX1_searchFrom_43 rfl ?_
      refine zY.i2l ⟨by omega, by omega⟩ hO dX1_searchFrom_45 ?_
      refine zY.iload_n hO dX1_searchFrom_46 rfl ?_
      refine zY.callS1iD (ct_X1_shiftOf (p := p) (by omega)) (by omega) zcal_X1_shiftOf zml_X1_84 (Nat.le_of_ble_eq_true rfl) rfl ⟨Nat.zero_le _, Nat.zero_le _⟩ hO dX1_searchFrom_47 ?_
      refine zY.lshl (c := ((i : Int) * ((2 ^ (6 * (5 - p)) : Nat) : Int))) (zlb_b p (by omega) i (by omega)) hO dX1_searchFrom_50 ?_
      refine zY.lor (c := (zown p i)) (by rw [← hmq]; exact zlb_c p (by omega) i (by omega)) hO dX1_searchFrom_51 ?_
      refine zY.lstore7 (zc1_I _) hO dX1_searchFrom_52 ?_
      refine zY.lload hO dX1_searchFrom_54 rfl ?_
      refine zY.lload_n hO dX1_searchFrom_56 rfl ?_
      refine zY.lcmp ⟨by omega, by omega⟩ ⟨by omega, by omega⟩ hO dX1_searchFrom_57 ?_
      refine zY.if_ge (tgt := 119) zlc_r hO dX1_searchFrom_58 (by decide) (fun c58 => ?_) (fun c58 => ?_)
      ·
        have hge := zlc_ge.mp c58
        refine zY.iinc4 _ rfl zc1_N hO dX1_searchFrom_119 ?_
        refine zY.goto (tgt := 7) hO dX1_searchFrom_122 (by decide) ?_
        refine zY.none5 ?_
        refine zY.none6 ?_
        refine zY.none7 ?_
        have hin := ih7 (by omega) μ1 gq lq hI hJ hL
        rw [show zmnn (fun ch => if zcan D p ch f then zown p ch + zlf D k (p + 1) (zls f (zbx D (zord D p) ch)) else 1152921504606846976) (i + 1) = zmnn (fun ch => if zcan D p ch f then zown p ch + zlf D k (p + 1) (zls f (zbx D (zord D p) ch)) else 1152921504606846976) i by
          simp only [zmnn]
          have hz := hG0 i
          have hz2 : zown p i ≤ (if zcan D p i f then zown p i + zlf D k (p + 1) (zls f (zbx D (zord D p) i)) else 1152921504606846976) := by
            have h2q := zlf_b D k (p + 1) (zls f (zbx D (zord D p) i))
            split <;> omega
          omega] at hin
        exact hin
      ·
        refine zY.iload hO dX1_searchFrom_61 rfl ?_
        refine zY.bipush hO dX1_searchFrom_63 (by decide) ?_
        refine zY.icmp_eq (tgt := 119) ⟨by omega, by omega⟩ ⟨by omega, by omega⟩ hO dX1_searchFrom_65 (by decide) (fun c65 => ?_) (fun c65 => ?_)
        ·
          refine zY.iinc4 _ rfl zc1_N hO dX1_searchFrom_119 ?_
          refine zY.goto (tgt := 7) hO dX1_searchFrom_122 (by decide) ?_
          refine zY.none5 ?_
          refine zY.none6 ?_
          refine zY.none7 ?_
          have hin := ih7 (by omega) μ1 gq lq hI hJ hL
          rw [show zmnn (fun ch => if zcan D p ch f then zown p ch + zlf D k (p + 1) (zls f (zbx D (zord D p) ch)) else 1152921504606846976) (i + 1) = zmnn (fun ch => if zcan D p ch f then zown p ch + zlf D k (p + 1) (zls f (zbx D (zord D p) ch)) else 1152921504606846976) i by
            simp only [zmnn]
            have hz := hG0 i
            rw [if_neg (fun z => z.1 (by omega))]
            omega] at hin
          exact hin
        ·
          have hokc : zokc D (zord D p) i := by
            by_cases hz : zokc D (zord D p) i ∧ 0 < D 4 (zord D p)
            · exact hz.1
            · exact absurd (by unfold zbx; rw [if_neg hz]) c65
          obtain ⟨bq, hbq⟩ : ∃ bq : Nat, zbx D (zord D p) i = (bq : Int) := ⟨(zbx D (zord D p) i).toNat, by omega⟩
          have hneed : 0 < znd D (zord D p) i bq := by
            have hz := (zbk_b i hW hop.2.1 hop.2.2).2.2
            have hz2 : zbx D (zord D p) i = zbk D (zord D p) i := by unfold zbx; rw [if_pos ⟨hokc, hop.2.2⟩]
            rw [← hz2, hbq, Int.toNat_natCast] at hz
            exact hz
          refine zY.aload_n hO dX1_searchFrom_68 rfl ?_
          refine zY.getR zfl_X1_23 (by decide : 96 < 150) rfl rfl hO dX1_searchFrom_69 ?_
          refine zY.aload_n hO dX1_searchFrom_72 rfl ?_
          refine zY.getR zfl_X1_16 (by decide : 96 < 150) rfl rfl hO dX1_searchFrom_73 ?_
          refine zY.iload hO dX1_searchFrom_76 rfl ?_
          refine zY.bipush hO dX1_searchFrom_78 (by decide) ?_
          refine zY.callV3iD (ct_hasForN zst_102 zbl_97 (β := 64 * p + i) (A := znd D (zord D p) i) (F := f) (hbil.1 hokc) (fun x hx => (hg1.2.1 x hx).2) (fun x hx => by have h1q := znd_b (ch := i) x hW hop.2.1; have h2q := hf.1 x hx; have h3q := hW.2.1 x hx; omega) (by omega)) (by omega) zcal_X7_hasFor zml_X1_101 (by decide : 102 < 150) rfl rfl (Nat.le_of_ble_eq_true rfl) rfl ⟨Nat.zero_le _, Nat.zero_le _⟩ hO dX1_searchFrom_80 ?_
          refine zY.if_eq (tgt := 119) zr_b hO dX1_searchFrom_83 (by decide) (fun c83 => ?_) (fun c83 => ?_)
          ·
            replace c83 := zb0.mp c83
            refine zY.iinc4 _ rfl zc1_N hO dX1_searchFrom_119 ?_
            refine zY.goto (tgt := 7) hO dX1_searchFrom_122 (by decide) ?_
            refine zY.none5 ?_
            refine zY.none6 ?_
            refine zY.none7 ?_
            have hin := ih7 (by omega) μ1 gq lq hI hJ hL
            rw [show zmnn (fun ch => if zcan D p ch f then zown p ch + zlf D k (p + 1) (zls f (zbx D (zord D p) ch)) else 1152921504606846976) (i + 1) = zmnn (fun ch => if zcan D p ch f then zown p ch + zlf D k (p + 1) (zls f (zbx D (zord D p) ch)) else 1152921504606846976) i by
              simp only [zmnn]
              have hz := hG0 i
              rw [if_neg (fun z => c83 z.2)]
              omega] at hin
            exact hin
          ·
            replace c83 := zb1.mp c83
            have hfb : 0 < f bq := by
              have hz := zlk_0.mp c83 bq (by omega)
              omega
            have hcan : zcan D p i f := ⟨c65, c83⟩
            refine zY.aload_n hO dX1_searchFrom_86 rfl ?_
            refine zY.getR zfl_X1_23 (by decide : 96 < 150) rfl rfl hO dX1_searchFrom_87 ?_
            refine zY.iload hO dX1_searchFrom_90 rfl ?_
            refine zY.as hbq ?_
            refine zY.callV1vD (ct_X7_breakOne zst_102 (x := bq) (by omega) (by rw [show μ1 (102 + 4) bq = f bq from (hg1.2.1 bq (by omega)).2]; have h2q := hf.1 bq (by omega); have h3q := hW.2.1 bq (by omega); exact ⟨by omega, by omega⟩)) (by omega) zcal_X7_breakOne zml_X1_105 (by decide : 102 < 150) rfl rfl (Nat.le_of_ble_eq_true rfl) rfl ⟨Nat.zero_le _, Nat.zero_le _⟩ hO dX1_searchFrom_92 ?_
            have hgn : zCg D (zls f (bq : Int)) (zrow μ1 (102 + 4) (zls (μ1 (102 + 4)) (bq : Int))) := by
              have hz := hg1.row (g := zls (μ1 106) (bq : Int)) (l := μ1 109) (f2 := zls f (bq : Int)) (fun x hx => zls_congr (hg1.2.1 x hx).2) hg1.2.2.2.2
              rw [zrow_self (q := 109) (fun _ => by rw [zrow_ne (by decide)])] at hz
              exact hz
            refine zY.lload_n hO dX1_searchFrom_95 rfl ?_
            refine zY.lload hO dX1_searchFrom_96 rfl ?_
            refine zY.aload_n hO dX1_searchFrom_98 rfl ?_
            refine zY.iload_n hO dX1_searchFrom_99 rfl ?_
            refine zY.iconst hO dX1_searchFrom_100 ?_
            refine zY.iadd hO dX1_searchFrom_101 ?_
            refine zY.as (b := ((p + 1 : Nat) : Int)) (by omega) ?_
            refine zY.callV1l (hnext _ _ (hf.next (v := bq) (by omega) hfb) hgn) (by omega) zcal_X1_leastFrom zml_X1_80 (by decide : 96 < 150) rfl rfl (Nat.le_of_ble_eq_true rfl) rfl ⟨Nat.zero_le _, Nat.zero_le _⟩ hO dX1_searchFrom_102 (fun rq μ2 hq2 => ?_)
            obtain ⟨rfl, g2q, l2q, hq3, hq4, hq5⟩ := hq2
            have hlfb := zlf_b D k (p + 1) (zls f (bq : Int))
            refine zY.ladd hO dX1_searchFrom_105 ?_
            refine zY.mminl ⟨by omega, by omega⟩ ⟨by omega, by omega⟩ zmx_X1_108 (Nat.le_of_ble_eq_true rfl) (by omega) rfl ⟨Nat.zero_le _, Nat.zero_le _⟩ hO dX1_searchFrom_106 ?_
            refine zY.lstore2 (zc1_I _) hO dX1_searchFrom_109 ?_
            refine zY.aload_n hO dX1_searchFrom_110 rfl ?_
            refine zY.getR zfl_X1_23 (by decide : 96 < 150) rfl rfl hO dX1_searchFrom_111 ?_
            refine zY.iload hO dX1_searchFrom_114 rfl ?_
            refine zY.as hbq ?_
            refine zY.callV1vD (ct_X7_mendOne zst_102 (x := bq) (by omega)) (by omega) zcal_X7_mendOne zml_X1_111 (by decide : 102 < 150) rfl rfl (Nat.le_of_ble_eq_true rfl) rfl ⟨Nat.zero_le _, Nat.zero_le _⟩ hO dX1_searchFrom_116 ?_
            refine zY.iinc4 _ rfl zc1_N hO dX1_searchFrom_119 ?_
            refine zY.goto (tgt := 7) hO dX1_searchFrom_122 (by decide) ?_
            refine zY.none5 ?_
            refine zY.none6 ?_
            refine zY.none7 ?_
            have hin := ih7 (by omega) (zwr μ2 (102 + 4) bq (μ2 (102 + 4) bq + 1)) (fun x => if x = bq then g2q bq + 1 else g2q x) l2q (by
              rw [hq3, hI]
              funext q' j'
              by_cases e1 : q' = 109 <;> by_cases e2 : q' = 106 <;> by_cases e3 : j' = bq <;> simp [zrow, zwr, e1, e2, e3]) (fun x hx => by
              by_cases e : x = bq
              · rw [if_pos e, e, hq4 bq (by omega)]
                unfold zls
                rw [if_pos ⟨rfl, hfb⟩]
                omega
              · rw [if_neg e, hq4 x hx]
                unfold zls
                rw [if_neg (fun z => by omega)]) hq5
            rw [show zmnn (fun ch => if zcan D p ch f then zown p ch + zlf D k (p + 1) (zls f (zbx D (zord D p) ch)) else 1152921504606846976) (i + 1) = min (zmnn (fun ch => if zcan D p ch f then zown p ch + zlf D k (p + 1) (zls f (zbx D (zord D p) ch)) else 1152921504606846976) i) (zown p i + zlf D k (p + 1) (zls f (bq : Int))) by
              simp only [zmnn]
              rw [if_pos hcan, hbq]] at hin
            exact hin
  exact L7 0 (by omega) μ (μ 106) (μ 109) (by rw [zrow_self (q := 106) (fun _ => rfl), zrow_self (fun _ => rfl)]) (fun x hx => (hg.2.1 x hx).2) hg.2.2.2.2

set_option maxRecDepth 100000 in
set_option maxHeartbeats 4000000 in
theorem ct_least0 {μ : zMem} {D : zBk} {f : Nat → Int} {p : Nat} (hW : zWF D) (hOq : zOrd D) (hk : p = zN D) (hf : zfit D p f) (hg : zCg D f μ) : Cl kX1_leastFrom 7 150 zSX [zP 96, zI (p : Int)] μ (fun r μ' => r = zlf D (0) p f ∧ ∃ g l, μ' = zrow (zrow μ 106 g) 109 l ∧ (∀ x, x < 6 → g x = f x) ∧ zmm D l) := by
  refine Ct.of [some (zP 96), some (zI (p : Int)), none] rfl (Nat.le_of_ble_eq_true rfl) (by decide +kernel) (fun Γ ad hO hR => ?_)
  have hNn := hOq.1
  refine zY.iload_n hO dX1_leastFrom_0 rfl ?_
  refine zY.aload_n hO dX1_leastFrom_1 rfl ?_
  refine zY.getI zfl_X1_38 (by decide : 96 < 150) rfl rfl hO dX1_leastFrom_2 ?_
  refine zY.as (b := (zN D : Int)) hg.2.2.1 ?_
  refine zY.icmp_ge (tgt := 14) ⟨by omega, by omega⟩ ⟨by omega, by omega⟩ hO dX1_leastFrom_5 (by decide) (fun c5 => ?_) (fun c5 => ?_)
  ·
    refine zY.lconst0 hO dX1_leastFrom_14 ?_
    exact zY.lret rfl ⟨_, rfl, ⟨rfl, μ 106, μ 109, by rw [zrow_self (q := 106) (fun _ => rfl), zrow_self (fun _ => rfl)], fun x hx => (hg.2.1 x hx).2, hg.2.2.2.2⟩⟩ hR hO dX1_leastFrom_15
  ·
    exfalso
    omega

set_option maxRecDepth 100000 in
set_option maxHeartbeats 4000000 in
theorem ct_leastS {μ : zMem} {D : zBk} {f : Nat → Int} {k p : Nat} (hW : zWF D) (hOq : zOrd D) (hk : p + (k + 1) = zN D) (hf : zfit D p f) (hg : zCg D f μ) (hsearch : ∀ (μ2 : zMem), zCg D f μ2 → Cl kX1_searchFrom (8 + 2 * k) 150 zSX [zP 96, zI (p : Int)] μ2 (fun r μ' => r = zlf D (k + 1) p f ∧ ∃ g l, μ' = zrow (zrow μ2 106 g) 109 l ∧ (∀ x, x < 6 → g x = f x) ∧ zmm D l)) : Cl kX1_leastFrom (9 + 2 * k) 150 zSX [zP 96, zI (p : Int)] μ (fun r μ' => r = zlf D (k + 1) p f ∧ ∃ g l, μ' = zrow (zrow μ 106 g) 109 l ∧ (∀ x, x < 6 → g x = f x) ∧ zmm D l) := by
  refine Ct.of [some (zP 96), some (zI (p : Int)), none] rfl (Nat.le_of_ble_eq_true rfl) (by decide +kernel) (fun Γ ad hO hR => ?_)
  have hNn := hOq.1
  have hnb := znum_b hf (by omega)
  have hmm := hg.2.2.2.2 p f (by omega) hf
  rw [show zN D - p = k + 1 by omega] at hmm
  have hlb := zlf_b D (k + 1) p f
  refine zY.iload_n hO dX1_leastFrom_0 rfl ?_
  refine zY.aload_n hO dX1_leastFrom_1 rfl ?_
  refine zY.getI zfl_X1_38 (by decide : 96 < 150) rfl rfl hO dX1_leastFrom_2 ?_
  refine zY.as (b := (zN D : Int)) hg.2.2.1 ?_
  refine zY.icmp_ge (tgt := 14) ⟨by omega, by omega⟩ ⟨by omega, by omega⟩ hO dX1_leastFrom_5 (by decide) (fun c5 => ?_) (fun c5 => ?_)
  ·
    exfalso
    omega
  ·
    refine zY.iload_n hO dX1_leastFrom_8 rfl ?_
    refine zY.bipush hO dX1_leastFrom_9 (by decide) ?_
    refine zY.icmp_lt (tgt := 16) ⟨by omega, by omega⟩ ⟨by omega, by omega⟩ hO dX1_leastFrom_11 (by decide) (fun c11 => ?_) (fun c11 => ?_)
    ·
      refine zY.aload_n hO dX1_leastFrom_16 rfl ?_
      refine zY.callV0iD (ct_X1_lossNumber hW hg.2.1 hg.2.2.2.1 hf (by omega)) (by omega) zcal_X1_lossNumber zml_X1_87 (by decide : 96 < 150) rfl rfl (Nat.le_of_ble_eq_true rfl) rfl ⟨Nat.zero_le _, Nat.zero_le _⟩ hO dX1_leastFrom_17 ?_
      refine zY.istore2 (zc1_I _) hO dX1_leastFrom_20 ?_
      refine zY.iload_n hO dX1_leastFrom_21 rfl ?_
      refine zY.if_lt (tgt := 34) ⟨by omega, by omega⟩ hO dX1_leastFrom_22 (by decide) (fun c22 => ?_) (fun c22 => ?_)
      ·
        exfalso
        omega
      ·
        refine zY.iload_n hO dX1_leastFrom_25 rfl ?_
        refine zY.aload_n hO dX1_leastFrom_26 rfl ?_
        refine zY.getR zfl_X1_34 (by decide : 96 < 150) rfl rfl hO dX1_leastFrom_27 ?_
        refine zY.alen (by decide : 109 < 150) (Or.inr rfl) hO dX1_leastFrom_30 ?_
        refine zY.icmp_lt (tgt := 38) ⟨by omega, by omega⟩ ⟨by omega, by omega⟩ hO dX1_leastFrom_31 (by decide) (fun c31 => ?_) (fun c31 => ?_)
        ·
          refine zY.aload_n hO dX1_leastFrom_38 rfl ?_
          refine zY.getR zfl_X1_34 (by decide : 96 < 150) rfl rfl hO dX1_leastFrom_39 ?_
          refine zY.iload_n hO dX1_leastFrom_42 rfl ?_
          refine zY.lald ((znum D f).toNat) (by omega) (by omega) (by decide) (by decide : 109 < 150) rfl hO dX1_leastFrom_43 ?_
          refine zY.ldc2 hO zcl_X1_78 dX1_leastFrom_44 ?_
          refine zY.lcmp ⟨by rcases hmm with hz | hz <;> rw [hz] <;> omega, by rcases hmm with hz | hz <;> rw [hz] <;> omega⟩ ⟨by omega, by omega⟩ hO dX1_leastFrom_47 ?_
          refine zY.if_ne (tgt := 62) zlc_r hO dX1_leastFrom_48 (by decide) (fun c48 => ?_) (fun c48 => ?_)
          ·
            have hne : ¬ μ 109 (znum D f).toNat = -1 := fun z => c48 (zlc_0.mpr z)
            refine zY.aload_n hO dX1_leastFrom_62 rfl ?_
            refine zY.getR zfl_X1_34 (by decide : 96 < 150) rfl rfl hO dX1_leastFrom_63 ?_
            refine zY.iload_n hO dX1_leastFrom_66 rfl ?_
            refine zY.lald ((znum D f).toNat) (by omega) (by omega) (by decide) (by decide : 109 < 150) rfl hO dX1_leastFrom_67 ?_
            exact zY.lret rfl ⟨_, rfl, ⟨by rcases hmm with hz | hz; (· exact absurd hz hne); (· exact hz), μ 106, μ 109, by rw [zrow_self (q := 106) (fun _ => rfl), zrow_self (fun _ => rfl)], fun x hx => (hg.2.1 x hx).2, hg.2.2.2.2⟩⟩ hR hO dX1_leastFrom_68
          ·
            have heq : μ 109 (znum D f).toNat = -1 := zlc_0.mp c48
            refine zY.aload_n hO dX1_leastFrom_51 rfl ?_
            refine zY.getR zfl_X1_34 (by decide : 96 < 150) rfl rfl hO dX1_leastFrom_52 ?_
            refine zY.iload_n hO dX1_leastFrom_55 rfl ?_
            refine zY.aload_n hO dX1_leastFrom_56 rfl ?_
            refine zY.iload_n hO dX1_leastFrom_57 rfl ?_
            refine zY.callV1l (hsearch μ hg) (by omega) zcal_X1_searchFrom zml_X1_90 (by decide : 96 < 150) rfl rfl (Nat.le_of_ble_eq_true rfl) rfl ⟨Nat.zero_le _, Nat.zero_le _⟩ hO dX1_leastFrom_58 (fun rq μ2 hq2 => ?_)
            obtain ⟨rfl, g2q, l2q, hq3, hq4, hq5⟩ := hq2
            refine zY.last ((znum D f).toNat) (by omega) (by omega) (by decide) (by decide : 109 < 150) rfl hO dX1_leastFrom_61 ?_
            refine zY.aload_n hO dX1_leastFrom_62 rfl ?_
            refine zY.getR zfl_X1_34 (by decide : 96 < 150) rfl rfl hO dX1_leastFrom_63 ?_
            refine zY.iload_n hO dX1_leastFrom_66 rfl ?_
            refine zY.lald ((znum D f).toNat) (by omega) (by omega) (by decide) (by decide : 109 < 150) rfl hO dX1_leastFrom_67 ?_
            exact zY.lret rfl ⟨_, rfl, ⟨by simp [zwr], g2q, fun j => if j = (znum D f).toNat then zlf D (k + 1) p f else l2q j, by rw [hq3, zwr_row], hq4, by have hz := zmm_put hq5 hNn.2 (by omega) hf; rw [show zN D - p = k + 1 by omega] at hz; exact hz⟩⟩ hR hO dX1_leastFrom_68
        ·
          exfalso
          omega
    ·
      exfalso
      omega

theorem ct_X1_leastFrom {D : zBk} (hW : zWF D) (hOq : zOrd D) : ∀ (k p : Nat) (f : Nat → Int) (μ : zMem), p + k = zN D → zfit D p f → zCg D f μ → Cl kX1_leastFrom (7 + 2 * k) 150 zSX [zP 96, zI (p : Int)] μ (fun r μ' => r = zlf D k p f ∧ ∃ g l, μ' = zrow (zrow μ 106 g) 109 l ∧ (∀ x, x < 6 → g x = f x) ∧ zmm D l)
  | 0, p, f, μ, hk, hf, hg => ct_least0 hW hOq hk hf hg
  | k + 1, p, f, μ, hk, hf, hg => by
    have h := ct_leastS (μ := μ) (k := k) hW hOq hk hf hg (fun μ2 hg2 => ct_X1_searchFrom hW hOq hk hf hg2 (fun f2 μ3 hf3 hg3 => ct_X1_leastFrom hW hOq k (p + 1) f2 μ3 (by omega) hf3 hg3))
    rw [show 7 + 2 * (k + 1) = 9 + 2 * k by omega]
    exact h

set_option maxRecDepth 100000 in
set_option maxHeartbeats 4000000 in
theorem ct_X1_load {μ : zMem} {D : zBk} {K0 K1 : Option zBk} (hX : zRX D K0 K1 μ) (hOq : zOrd D) (hch : zCho μ)  : Cv kX1_load 20 150 zSX [zP 96, zP 1, zP 18] μ (fun μ' => μ' 96 5 = zlf D (zN D) 0 (D 5) ∧ zCho μ' ∧ zSame 96 109 μ μ') := by
  refine Ct.of [some (zP 96), some (zP 1), some (zP 18), none, none] rfl (Nat.le_of_ble_eq_true rfl) (by decide +kernel) (fun Γ ad hO hR => ?_)
  have hNe := zN_eq hX.1
  have hNn := hOq.1
  refine zY.aload_n hO dX1_load_0 rfl ?_
  refine zY.aload_n hO dX1_load_1 rfl ?_
  refine zY.callV0iD (ct_X3_count) (by omega) zcal_X3_count zml_X1_62 (by decide : 18 < 150) rfl rfl (Nat.le_of_ble_eq_true rfl) rfl ⟨Nat.zero_le _, Nat.zero_le _⟩ hO dX1_load_2 ?_
  refine zY.as (b := (zN D : Int)) (hX.2.2.1.2.trans hNe.1) ?_
  refine zY.bipush hO dX1_load_5 (by decide) ?_
  refine zY.mmin ⟨by omega, by omega⟩ ⟨by omega, by omega⟩ zmx_X1_52 (Nat.le_of_ble_eq_true rfl) (by omega) rfl ⟨Nat.zero_le _, Nat.zero_le _⟩ hO dX1_load_7 ?_
  refine zY.as (b := (zN D : Int)) (by omega) ?_
  refine zY.putI zfp_X1_38 (by decide : 96 < 150) rfl rfl hO dX1_load_10 ?_
  obtain ⟨μa, hma⟩ : ∃ μa : zMem, μa = zwr μ 96 4 (zN D : Int) := ⟨_, rfl⟩
  rw [← hma]
  have hsma : zSame 96 109 μ μa := by rw [hma]; exact zSame.rfl'.wr (by decide) (by decide)
  have h96a : μa 96 4 = (zN D : Int) := by rw [hma]; simp [zwr]
  have hcha : zCho μa := fun j hj => by rw [hma, zwr_ne (by decide)]; exact hch j hj
  refine zY.iconst hO dX1_load_13 ?_
  refine zY.istore3 (zc1_P _) hO dX1_load_14 ?_
  have L15 : ∀ i : Nat, i ≤ zN D → ∀ (μ1 : zMem), zSame 96 109 μ μ1 → μ1 96 4 = (zN D : Int) → zCho μ1 → zBc D (64 * i) μ1 → zY Γ (150, zSX, ad, 0, 0) 15 [some (zP 96), some (zP 1), some (zP 18), some (zI (i : Int)), none] [] μ1 := by
    refine zdown (zN D) (fun i hi_i ih15 => ?_)
    intro μ1 hI1 hI2 hI3 hI4
    refine zY.iload_n hO dX1_load_15 rfl ?_
    refine zY.aload_n hO dX1_load_16 rfl ?_
    refine zY.getI zfl_X1_38 (by decide : 96 < 150) rfl rfl hO dX1_load_17 ?_
    refine zY.as (b := (zN D : Int)) hI2 ?_
    refine zY.icmp_ge (tgt := 67) ⟨by omega, by omega⟩ ⟨by omega, by omega⟩ hO dX1_load_20 (by decide) (fun c20 => ?_) (fun c20 => ?_)
    ·
      refine zY.aload_n hO dX1_load_67 rfl ?_
      refine zY.getR zfl_X1_23 (by decide : 96 < 150) rfl rfl hO dX1_load_68 ?_
      refine zY.aload_n hO dX1_load_71 rfl ?_
      refine zY.callV1v (ct_X7_load zst_102) (by omega) zcal_X7_load zml_X1_74 (by decide : 102 < 150) rfl rfl (Nat.le_of_ble_eq_true rfl) rfl ⟨Nat.zero_le _, Nat.zero_le _⟩ hO dX1_load_72 (fun μ2 hq3 => ?_)
      obtain ⟨f2q, g2q, hq3, hq4⟩ := hq3
      have hsm2 : zSame 96 109 μ μ2 := by rw [hq3]; exact (hI1.row (by decide) (by decide)).row (by decide) (by decide)
      have hiN : i = zN D := by omega
      rw [hiN] at hI4
      have h4q : ∀ x, x < 6 → μ2 104 x = D 5 x ∧ μ2 106 x = D 5 x := fun x hx => by
        have hz := hq4 x hx
        have hz2 : μ1 5 x = D 5 x := ((hI1.shp hX.2.1 (by decide)).2.1 x hx).2.1
        rw [hz2] at hz
        refine ⟨?_, ?_⟩
        · rw [hq3, zrow_ne (by decide), zrow_eq]; exact hz.1
        · rw [hq3, zrow_eq]; exact hz.2
      have h96b : μ2 96 4 = (zN D : Int) := by rw [hq3, zrow_ne (by decide), zrow_ne (by decide)]; exact hI2
      have hchb : zCho μ2 := fun j hj => by rw [hq3, zrow_ne (by decide), zrow_ne (by decide)]; exact hI3 j hj
      have hbcb : zBc D (64 * zN D) μ2 := hI4.row (by rw [hq3, zrow_ne (by decide), zrow_ne (by decide)]) (by rw [hq3, zrow_ne (by decide), zrow_ne (by decide)])
      refine zY.iconst hO dX1_load_75 ?_
      refine zY.istore3 (zc1_P _) hO dX1_load_76 ?_
      have L77 : ∀ m : Nat, m ≤ 462 → ∀ lq : Nat → Int, (∀ j, j < m → lq j = -1) → zY Γ (150, zSX, ad, 0, 0) 77 [some (zP 96), some (zP 1), some (zP 18), some (zI (m : Int)), none] [] (zrow μ2 109 lq) := by
        refine zdown (462) (fun m hi_m ih77 => ?_)
        intro lq hM
        refine zY.iload_n hO dX1_load_77 rfl ?_
        refine zY.aload_n hO dX1_load_78 rfl ?_
        refine zY.getR zfl_X1_34 (by decide : 96 < 150) rfl rfl hO dX1_load_79 ?_
        refine zY.alen (by decide : 109 < 150) (Or.inr rfl) hO dX1_load_82 ?_
        refine zY.icmp_ge (tgt := 101) ⟨by omega, by omega⟩ ⟨by omega, by omega⟩ hO dX1_load_83 (by decide) (fun c83 => ?_) (fun c83 => ?_)
        ·
          refine zY.aload_n hO dX1_load_101 rfl ?_
          refine zY.aload_n hO dX1_load_102 rfl ?_
          refine zY.iconst hO dX1_load_103 ?_
          have hfit : zfit D 0 (D 5) := ⟨fun x hx => by have := hX.1.2.1 x hx; omega, by
            have hz := zsum_congr (f := fun t => D 5 t - D 5 t) (g := fun _ => 0) 6 (fun x _ => by show D 5 x - D 5 x = 0; omega)
            rw [hz]; rfl⟩
          have hcg : zCg D (D 5) (zrow μ2 109 lq) := ⟨hbcb.row (zrow_ne (by decide)) (zrow_ne (by decide)), fun x hx => by rw [zrow_ne (by decide), zrow_ne (by decide)]; exact h4q x hx, by rw [zrow_ne (by decide)]; exact h96b, fun j hj => by rw [zrow_ne (by decide)]; exact hchb j hj, fun p f h1 h2 => by
            have hz := znum_b h2 (by omega)
            rw [zrow_eq]
            exact Or.inl (hM _ (by omega))⟩
          have hlf := ct_X1_leastFrom hX.1 hOq (zN D) 0 (D 5) _ (by omega) hfit hcg
          refine zY.callV1l (hlf) (by omega) zcal_X1_leastFrom zml_X1_80 (by decide : 96 < 150) rfl rfl (Nat.le_of_ble_eq_true rfl) rfl ⟨Nat.zero_le _, Nat.zero_le _⟩ hO dX1_load_104 (fun rq μ4 hq5 => ?_)
          obtain ⟨rfl, g4q, l4q, hq6, hq7, hq8⟩ := hq5
          refine zY.putJ zfp_X1_44 (by decide : 96 < 150) rfl rfl hO dX1_load_107 ?_
          exact zY.vret rfl ⟨rfl, ⟨by simp [zwr], fun j hj => by rw [zwr_ne (by decide), hq6, zrow_ne (by decide), zrow_ne (by decide), zrow_ne (by decide)]; exact hchb j hj, by rw [hq6]; exact (((hsm2.row (by decide) (by decide)).row (by decide) (by decide)).row (by decide) (by decide)).wr (by decide) (by decide)⟩⟩ hR hO dX1_load_110
        ·
          refine zY.aload_n hO dX1_load_86 rfl ?_
          refine zY.getR zfl_X1_34 (by decide : 96 < 150) rfl rfl hO dX1_load_87 ?_
          refine zY.iload_n hO dX1_load_90 rfl ?_
          refine zY.ldc2 hO zcl_X1_78 dX1_load_91 ?_
          refine zY.last (m) (by omega) (by omega) (by decide) (by decide : 109 < 150) rfl hO dX1_load_94 ?_
          refine zY.iinc3 _ rfl (zc1_P _) hO dX1_load_95 ?_
          refine zY.goto (tgt := 77) hO dX1_load_98 (by decide) ?_
          have hin := ih77 (by omega) (fun j => if j = m then -1 else lq j) (fun j hj => by by_cases e : j = m; (· rw [if_pos e]); (· rw [if_neg e]; exact hM j (by omega)))
          rw [← zwr_row] at hin
          exact hin
      have hin := L77 0 (by omega) (μ2 109) (fun j h => by omega)
      rw [zrow_self (fun _ => rfl)] at hin
      exact hin
    ·
      refine zY.iconst hO dX1_load_23 ?_
      refine zY.istore4 (zc1_I _) hO dX1_load_24 ?_
      have L26 : ∀ j : Nat, j ≤ 64 → ∀ (μ2 : zMem), zSame 96 109 μ μ2 → μ2 96 4 = (zN D : Int) → zCho μ2 → zBc D (64 * i + j) μ2 → zY Γ (150, zSX, ad, 0, 0) 26 [some (zP 96), some (zP 1), some (zP 18), some (zI (i : Int)), some (zI (j : Int))] [] μ2 := by
        refine zdown (64) (fun j hi_j ih26 => ?_)
        intro μ2 hJ1 hJ2 hJ3 hJ4
        refine zY.iload hO dX1_load_26 rfl ?_
        refine zY.bipush hO dX1_load_28 (by decide) ?_
        refine zY.icmp_ge (tgt := 61) ⟨by omega, by omega⟩ ⟨by omega, by omega⟩ hO dX1_load_30 (by decide) (fun c30 => ?_) (fun c30 => ?_)
        ·
          refine zY.iinc3 _ rfl (zc1_P _) hO dX1_load_61 ?_
          refine zY.goto (tgt := 15) hO dX1_load_64 (by decide) ?_
          refine zY.none4 ?_
          exact ih15 (by omega) μ2 hJ1 hJ2 hJ3 (by rw [show 64 * (i + 1) = 64 * i + j by omega]; exact hJ4)
        ·
          have hoi := hOq.2.1 i (by omega)
          refine zY.aload_n hO dX1_load_33 rfl ?_
          refine zY.getR zfl_X1_16 (by decide : 96 < 150) rfl rfl hO dX1_load_34 ?_
          refine zY.iload_n hO dX1_load_37 rfl ?_
          refine zY.bipush hO dX1_load_38 (by decide) ?_
          refine zY.imul hO dX1_load_40 ?_
          refine zY.iload hO dX1_load_41 rfl ?_
          refine zY.iadd hO dX1_load_43 ?_
          refine zY.as (b := ((64 * i + j : Nat) : Int)) (by omega) ?_
          refine zY.aload_n hO dX1_load_44 rfl ?_
          refine zY.aload_n hO dX1_load_45 rfl ?_
          refine zY.iload_n hO dX1_load_46 rfl ?_
          refine zY.callV1iD (ct_X3_digitAt (by omega)) (by omega) zcal_X3_digitAt zml_X1_67 (by decide : 18 < 150) rfl rfl (Nat.le_of_ble_eq_true rfl) rfl ⟨Nat.zero_le _, Nat.zero_le _⟩ hO dX1_load_47 ?_
          refine zY.as (b := (zord D i : Int)) (by rw [(hJ1.pad hX.2.2.1 (by decide)).1 i (by omega)]; omega) ?_
          refine zY.iload hO dX1_load_50 rfl ?_
          refine zY.callV4v (ct_X0_write zbl_97 (β := 64 * i + j) (s := zord D i) (ch := j) hX.1 (hJ1.shp hX.2.1 (by decide)) (by omega) hoi.2.1 (by omega)) (by omega) zcal_X0_write zml_X1_70 (by decide : 97 < 150) rfl rfl (Nat.le_of_ble_eq_true rfl) rfl ⟨Nat.zero_le _, Nat.zero_le _⟩ hO dX1_load_52 (fun μ3 hq3 => ?_)
          obtain ⟨fq, hf1, hf2, hf3⟩ := hq3
          refine zY.iinc4 _ rfl (zc1_I _) hO dX1_load_55 ?_
          refine zY.goto (tgt := 26) hO dX1_load_58 (by decide) ?_
          refine ih26 (by omega) μ3 (by rw [hf3]; exact (hJ1.row (by decide) (by decide)).row (by decide) (by decide)) (by rw [hf3, zrow_ne (by decide), zrow_ne (by decide)]; exact hJ2) (fun j' hj' => by rw [hf3, zrow_ne (by decide), zrow_ne (by decide)]; exact hJ3 j' hj') ?_
          intro p ch h1 h2
          by_cases e : 64 * p + ch = 64 * i + j
          · have hp : p = i := by omega
            have hc : ch = j := by omega
            subst hp hc
            refine ⟨fun hz x hx => ?_, ?_⟩
            · rw [hf3, zrow_ne (by decide), show zrow μ2 (97 + 2) fq 99 = fq from zrow_eq]
              exact hf2 hz x hx
            · rw [hf3, show zrow (zrow μ2 (97 + 2) fq) (97 + 4) (fun j' => if j' = 64 * p + ch then zbx D (zord D p) ch else μ2 (97 + 4) j') 101 = (fun j' => if j' = 64 * p + ch then zbx D (zord D p) ch else μ2 (97 + 4) j') from zrow_eq]
              exact if_pos rfl
          · have hz := hJ4 p ch h1 (by omega)
            refine ⟨fun hz2 x hx => ?_, ?_⟩
            · rw [hf3, zrow_ne (by decide), show zrow μ2 (97 + 2) fq 99 = fq from zrow_eq, hf1 _ (by omega)]
              exact hz.1 hz2 x hx
            · rw [hf3, show zrow (zrow μ2 (97 + 2) fq) (97 + 4) (fun j' => if j' = 64 * i + j then zbx D (zord D i) j else μ2 (97 + 4) j') 101 = (fun j' => if j' = 64 * i + j then zbx D (zord D i) j else μ2 (97 + 4) j') from zrow_eq]
              show (if 64 * p + ch = 64 * i + j then zbx D (zord D i) j else μ2 (97 + 4) (64 * p + ch)) = _
              rw [if_neg e]
              exact hz.2
      exact L26 0 (by omega) μ1 hI1 hI2 hI3 hI4
  exact L15 0 (by omega) μa hsma h96a hcha (fun p ch h1 h2 => by omega)

set_option maxRecDepth 100000 in
set_option maxHeartbeats 4000000 in
theorem ct_X10_changes {μ : zMem} {D : zBk} {K0 K1 : Option zBk} (hX : zRX D K0 K1 μ) (hch : zCho μ) {x : Int} (hx : zr x) : Ci kX10_changes 21 150 zSX [zP 0, zI x] μ (fun a μ' => a = zA_changes D x ∧ zCho μ' ∧ zSame 96 109 μ μ') := by
  refine Ct.of [some (zP 0), some (zI x)] rfl (Nat.le_of_ble_eq_true rfl) (by decide +kernel) (fun Γ ad hO hR => ?_)
  have hNe := zN_eq hX.1
  refine zY.aload_n hO dX10_changes_0 rfl ?_
  refine zY.iconst hO dX10_changes_1 ?_
  refine zY.callV1iD (ct_X10_faultAs hX (by decide) (by decide)) (by omega) zcal_X10_faultAs zml_X10_85 (by decide : 0 < 150) rfl rfl (Nat.le_of_ble_eq_true rfl) rfl ⟨Nat.zero_le _, Nat.zero_le _⟩ hO dX10_changes_2 ?_
  refine zY.bipush hO dX10_changes_5 (by decide) ?_
  refine zY.icmp_eq (tgt := 13) (zflt_b hX.1 2) ⟨by omega, by omega⟩ hO dX10_changes_7 (by decide) (fun c7 => ?_) (fun c7 => ?_)
  ·
    have hOq := zOrd_of c7
    have hNn := hOq.1
    refine zY.iload_n hO dX10_changes_13 rfl ?_
    refine zY.iconst hO dX10_changes_14 ?_
    refine zY.aload_n hO dX10_changes_15 rfl ?_
    refine zY.getR zfl_X10_19 (by decide : 0 < 150) rfl rfl hO dX10_changes_16 ?_
    refine zY.callV0iD (ct_X3_count) (by omega) zcal_X3_count zml_X10_74 (by decide : 18 < 150) rfl rfl (Nat.le_of_ble_eq_true rfl) rfl ⟨Nat.zero_le _, Nat.zero_le _⟩ hO dX10_changes_19 ?_
    refine zY.as (b := D 10 0) hX.2.2.1.2 ?_
    refine zY.iconst hO dX10_changes_22 ?_
    refine zY.isub hO dX10_changes_23 ?_
    refine zY.callS3iD (ct_X10_within hx ⟨by omega, by omega⟩ ⟨by omega, by omega⟩) (by omega) zcal_X10_within zml_X10_70 (Nat.le_of_ble_eq_true rfl) rfl ⟨Nat.zero_le _, Nat.zero_le _⟩ hO dX10_changes_24 ?_
    refine zY.if_ne (tgt := 33) zr_b hO dX10_changes_27 (by decide) (fun c27 => ?_) (fun c27 => ?_)
    ·
      replace c27 := zb1.mp c27
      refine zY.aload_n hO dX10_changes_33 rfl ?_
      refine zY.getR zfl_X10_59 (by decide : 0 < 150) rfl rfl hO dX10_changes_34 ?_
      refine zY.aload_n hO dX10_changes_37 rfl ?_
      refine zY.getR zfl_X10_10 (by decide : 0 < 150) rfl rfl hO dX10_changes_38 ?_
      refine zY.aload_n hO dX10_changes_41 rfl ?_
      refine zY.getR zfl_X10_19 (by decide : 0 < 150) rfl rfl hO dX10_changes_42 ?_
      refine zY.callV2v (ct_X1_load hX hOq hch) (by omega) zcal_X1_load zml_X10_166 (by decide : 96 < 150) rfl rfl (Nat.le_of_ble_eq_true rfl) rfl ⟨Nat.zero_le _, Nat.zero_le _⟩ hO dX10_changes_45 (fun μ1 hq1 => ?_)
      obtain ⟨hw1, hch1, hsm1⟩ := hq1
      have hlb := zlf_b D (zN D) 0 (D 5)
      obtain ⟨wq, hwq⟩ : ∃ wq : Nat, zlf D (zN D) 0 (D 5) = (wq : Int) := ⟨(zlf D (zN D) 0 (D 5)).toNat, by omega⟩
      refine zY.iload_n hO dX10_changes_48 rfl ?_
      refine zY.if_ge (tgt := 62) hx hO dX10_changes_49 (by decide) (fun c49 => ?_) (fun c49 => ?_)
      ·
        refine zY.aload_n hO dX10_changes_62 rfl ?_
        refine zY.getR zfl_X10_59 (by decide : 0 < 150) rfl rfl hO dX10_changes_63 ?_
        refine zY.iload_n hO dX10_changes_66 rfl ?_
        obtain ⟨xq, hxq⟩ : ∃ xq : Nat, x = (xq : Int) := ⟨x.toNat, by omega⟩
        refine zY.as hxq ?_
        refine zY.callV1iD (ct_X1_placesOf (wq := wq) (p := xq) (by omega) (hw1.trans hwq) (by omega)) (by omega) zcal_X1_placesOf zml_X10_170 (by decide : 96 < 150) rfl rfl (Nat.le_of_ble_eq_true rfl) rfl ⟨Nat.zero_le _, Nat.zero_le _⟩ hO dX10_changes_67 ?_
        exact zY.iret rfl ⟨_, rfl, ⟨by unfold zA_changes; rw [if_pos c7, if_pos c27, hwq, if_neg (show ¬ x < 0 by omega), hxq, Int.toNat_natCast], hch1, hsm1⟩⟩ hR hO dX10_changes_70
      ·
        refine zY.aload_n hO dX10_changes_52 rfl ?_
        refine zY.getR zfl_X10_59 (by decide : 0 < 150) rfl rfl hO dX10_changes_53 ?_
        refine zY.callV0iD (ct_X1_howMany (wq := wq) (hw1.trans hwq) (by omega)) (by omega) zcal_X1_howMany zml_X10_167 (by decide : 96 < 150) rfl rfl (Nat.le_of_ble_eq_true rfl) rfl ⟨Nat.zero_le _, Nat.zero_le _⟩ hO dX10_changes_56 ?_
        refine zY.goto (tgt := 70) hO dX10_changes_59 (by decide) ?_
        exact zY.iret rfl ⟨_, rfl, ⟨by unfold zA_changes; rw [if_pos c7, if_pos c27, hwq, if_pos (show x < 0 by omega)], hch1, hsm1⟩⟩ hR hO dX10_changes_70
    ·
      replace c27 := zb0.mp c27
      refine zY.bipush hO dX10_changes_30 (by decide) ?_
      exact zY.iret rfl ⟨_, rfl, ⟨by unfold zA_changes; rw [if_pos c7, if_neg c27], hch, zSame.rfl'⟩⟩ hR hO dX10_changes_32
  ·
    refine zY.bipush hO dX10_changes_10 (by decide) ?_
    exact zY.iret rfl ⟨_, rfl, ⟨by unfold zA_changes; rw [if_neg c7], hch, zSame.rfl'⟩⟩ hR hO dX10_changes_12
