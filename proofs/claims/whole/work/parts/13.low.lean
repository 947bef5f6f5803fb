/-! small statics, Bills, Stock, parts of Shop -/
theorem zr_b {p : Prop} [Decidable p] : zr (if p then (1 : Int) else 0) := by split <;> exact ⟨by omega, by omega⟩
theorem zb0 {p : Prop} [Decidable p] : (if p then (1 : Int) else 0) = 0 ↔ ¬ p := by by_cases h : p <;> simp [h]
theorem zb1 {p : Prop} [Decidable p] : ¬ (if p then (1 : Int) else 0) = 0 ↔ p := by by_cases h : p <;> simp [h]
theorem zb01 {p : Prop} [Decidable p] : (if p then (1 : Int) else 0) = 0 ∨ (if p then (1 : Int) else 0) = 1 := by by_cases h : p <;> simp [h]
theorem zY.as2 {Γ : zCx} {ω : zOm} {pc : Nat} {lv : List (Option Value)} {v : Value} {st : List Value} {μ : zMem} {a b : Int} (h : a = b) (kk : zY Γ ω pc lv (v :: zI b :: st) μ) : zY Γ ω pc lv (v :: zI a :: st) μ := h ▸ kk
theorem zY.as3 {Γ : zCx} {ω : zOm} {pc : Nat} {lv : List (Option Value)} {v v' : Value} {st : List Value} {μ : zMem} {a b : Int} (h : a = b) (kk : zY Γ ω pc lv (v :: v' :: zI b :: st) μ) : zY Γ ω pc lv (v :: v' :: zI a :: st) μ := h ▸ kk
theorem zY.asJ {Γ : zCx} {ω : zOm} {pc : Nat} {lv : List (Option Value)} {st : List Value} {μ : zMem} {a b : Int} (h : a = b) (kk : zY Γ ω pc lv (zJ b :: st) μ) : zY Γ ω pc lv (zJ a :: st) μ := h ▸ kk
theorem zY.ldcw {Γ : zCx} {ω : zOm} {k : zMth} {d pc : Nat} {lv : List (Option Value)} {st : List Value} {μ : zMem} {idx : Nat} {a : Int} (hO : zok Γ k d) (hw : Cond.constant k.1.cls idx (Int32.ofInt a) ∈ zT) (hd : decode k.2.1 pc = .ok (.ldc_w idx, 3)) (kk : zY Γ ω (pc + 3) lv (zI a :: st) μ) : zY Γ ω pc lv st μ :=
  fun H locs ls hW hS hL => lv_ldcw hO.1 hO.2.1 hO.2.2.2.1 (hO.2.2.2.2.1 _ hw) hd (kk H locs ls hW hS hL)

set_option maxRecDepth 100000 in
set_option maxHeartbeats 4000000 in
theorem ct_X10_within {n : Nat} {sh : Nat → zShc} {μ : zMem} {a b c : Int} (ha : zr a) (hb : zr b) (hc : zr c) : Ci kX10_within 1 n sh [zI a, zI b, zI c] μ (fun r μ' => r = (if b ≤ a ∧ a ≤ c then 1 else 0) ∧ μ' = μ) := by
  refine Ct.of [some (zI a), some (zI b), some (zI c)] rfl (Nat.le_of_ble_eq_true rfl) (by decide +kernel) (fun Γ ad hO hR => ?_)
  refine zY.iload_n hO dX10_within_0 rfl ?_
  refine zY.iload_n hO dX10_within_1 rfl ?_
  refine zY.icmp_lt (tgt := 14) ⟨by omega, by omega⟩ ⟨by omega, by omega⟩ hO dX10_within_2 (by decide) (fun c2 => ?_) (fun c2 => ?_)
  ·
    refine zY.iconst hO dX10_within_14 ?_
    exact zY.zret (by omega) rfl ⟨_, rfl, ⟨by first | rw [if_pos (by omega)] | rw [if_neg (by omega)], rfl⟩⟩ hR hO dX10_within_15
  ·
    refine zY.iload_n hO dX10_within_5 rfl ?_
    refine zY.iload_n hO dX10_within_6 rfl ?_
    refine zY.icmp_gt (tgt := 14) ⟨by omega, by omega⟩ ⟨by omega, by omega⟩ hO dX10_within_7 (by decide) (fun c7 => ?_) (fun c7 => ?_)
    ·
      refine zY.iconst hO dX10_within_14 ?_
      exact zY.zret (by omega) rfl ⟨_, rfl, ⟨by first | rw [if_pos (by omega)] | rw [if_neg (by omega)], rfl⟩⟩ hR hO dX10_within_15
    ·
      refine zY.iconst hO dX10_within_10 ?_
      refine zY.goto (tgt := 15) hO dX10_within_11 (by decide) ?_
      exact zY.zret (by omega) rfl ⟨_, rfl, ⟨by first | rw [if_pos (by omega)] | rw [if_neg (by omega)], rfl⟩⟩ hR hO dX10_within_15

set_option maxRecDepth 100000 in
set_option maxHeartbeats 4000000 in
theorem ct_X10_has {n : Nat} {sh : Nat → zShc} {μ : zMem} {b i : Nat} (hb : b < 64) (hi : i < 6) : Ci kX10_has 1 n sh [zI (b : Int), zI (i : Int)] μ (fun r μ' => r = (if b.testBit i = true then 1 else 0) ∧ μ' = μ) := by
  refine Ct.of [some (zI (b : Int)), some (zI (i : Int))] rfl (Nat.le_of_ble_eq_true rfl) (by decide +kernel) (fun Γ ad hO hR => ?_)
  refine zY.iload_n hO dX10_has_0 rfl ?_
  refine zY.iload_n hO dX10_has_1 rfl ?_
  refine zY.ishr (c := ((b / 2 ^ i : Nat) : Int)) (zb_shr b hb i (by omega)) hO dX10_has_2 ?_
  refine zY.iconst hO dX10_has_3 ?_
  have hlt : b / 2 ^ i < 64 := Nat.lt_of_le_of_lt (Nat.div_le_self _ _) hb
  refine zY.iand (c := ((b / 2 ^ i % 2 : Nat) : Int)) (zb_and1 _ hlt) hO dX10_has_4 ?_
  refine zY.iconst hO dX10_has_5 ?_
  refine zY.icmp_ne (tgt := 13) ⟨by omega, by omega⟩ ⟨by omega, by omega⟩ hO dX10_has_6 (by decide) (fun c6 => ?_) (fun c6 => ?_)
  ·
    have hb2 := zb_bit b hb i hi
    refine zY.iconst hO dX10_has_13 ?_
    exact zY.zret (by omega) rfl ⟨_, rfl, ⟨by first | rw [if_pos (hb2.mp (by omega))] | rw [if_neg (fun z => by have := hb2.mpr z; omega)], rfl⟩⟩ hR hO dX10_has_14
  ·
    have hb2 := zb_bit b hb i hi
    refine zY.iconst hO dX10_has_9 ?_
    refine zY.goto (tgt := 14) hO dX10_has_10 (by decide) ?_
    exact zY.zret (by omega) rfl ⟨_, rfl, ⟨by first | rw [if_pos (hb2.mp (by omega))] | rw [if_neg (fun z => by have := hb2.mpr z; omega)], rfl⟩⟩ hR hO dX10_has_14

set_option maxRecDepth 100000 in
set_option maxHeartbeats 4000000 in
theorem ct_X10_isWord {n : Nat} {sh : Nat → zShc} {μ : zMem} {a : Int} (ha : zr a) : Ci kX10_isWord 2 n sh [zI a] μ (fun r μ' => r = (if 0 ≤ a ∧ a ≤ 9 then 1 else 0) ∧ μ' = μ) := by
  refine Ct.of [some (zI a)] rfl (Nat.le_of_ble_eq_true rfl) (by decide +kernel) (fun Γ ad hO hR => ?_)
  refine zY.iload_n hO dX10_isWord_0 rfl ?_
  refine zY.iconst hO dX10_isWord_1 ?_
  refine zY.bipush hO dX10_isWord_2 (by decide) ?_
  refine zY.callS3iD (ct_X10_within ha ⟨by omega, by omega⟩ ⟨by omega, by omega⟩) (by decide) zcal_X10_within zml_X10_70 (Nat.le_of_ble_eq_true rfl) rfl ⟨Nat.zero_le _, Nat.zero_le _⟩ hO dX10_isWord_4 ?_
  exact zY.zret zb01 rfl ⟨_, rfl, ⟨rfl, rfl⟩⟩ hR hO dX10_isWord_7

set_option maxRecDepth 100000 in
set_option maxHeartbeats 4000000 in
theorem ct_X10_isSheet {n : Nat} {sh : Nat → zShc} {μ : zMem} {a : Int} (ha : zr a) : Ci kX10_isSheet 2 n sh [zI a] μ (fun r μ' => r = (if 0 ≤ a ∧ a ≤ 5 then 1 else 0) ∧ μ' = μ) := by
  refine Ct.of [some (zI a)] rfl (Nat.le_of_ble_eq_true rfl) (by decide +kernel) (fun Γ ad hO hR => ?_)
  refine zY.iload_n hO dX10_isSheet_0 rfl ?_
  refine zY.iconst hO dX10_isSheet_1 ?_
  refine zY.iconst hO dX10_isSheet_2 ?_
  refine zY.callS3iD (ct_X10_within ha ⟨by omega, by omega⟩ ⟨by omega, by omega⟩) (by decide) zcal_X10_within zml_X10_70 (Nat.le_of_ble_eq_true rfl) rfl ⟨Nat.zero_le _, Nat.zero_le _⟩ hO dX10_isSheet_3 ?_
  exact zY.zret zb01 rfl ⟨_, rfl, ⟨rfl, rfl⟩⟩ hR hO dX10_isSheet_6

set_option maxRecDepth 100000 in
set_option maxHeartbeats 4000000 in
theorem ct_X10_isSort {n : Nat} {sh : Nat → zShc} {μ : zMem} {a : Int} (ha : zr a) : Ci kX10_isSort 2 n sh [zI a] μ (fun r μ' => r = (if 0 ≤ a ∧ a ≤ 5 then 1 else 0) ∧ μ' = μ) := by
  refine Ct.of [some (zI a)] rfl (Nat.le_of_ble_eq_true rfl) (by decide +kernel) (fun Γ ad hO hR => ?_)
  refine zY.iload_n hO dX10_isSort_0 rfl ?_
  refine zY.iconst hO dX10_isSort_1 ?_
  refine zY.iconst hO dX10_isSort_2 ?_
  refine zY.callS3iD (ct_X10_within ha ⟨by omega, by omega⟩ ⟨by omega, by omega⟩) (by decide) zcal_X10_within zml_X10_70 (Nat.le_of_ble_eq_true rfl) rfl ⟨Nat.zero_le _, Nat.zero_le _⟩ hO dX10_isSort_3 ?_
  exact zY.zret zb01 rfl ⟨_, rfl, ⟨rfl, rfl⟩⟩ hR hO dX10_isSort_6

set_option maxRecDepth 100000 in
set_option maxHeartbeats 4000000 in
theorem ct_X10_isSortOrAll {n : Nat} {sh : Nat → zShc} {μ : zMem} {a : Int} (ha : zr a) : Ci kX10_isSortOrAll 2 n sh [zI a] μ (fun r μ' => r = (if -1 ≤ a ∧ a ≤ 5 then 1 else 0) ∧ μ' = μ) := by
  refine Ct.of [some (zI a)] rfl (Nat.le_of_ble_eq_true rfl) (by decide +kernel) (fun Γ ad hO hR => ?_)
  refine zY.iload_n hO dX10_isSortOrAll_0 rfl ?_
  refine zY.iconst hO dX10_isSortOrAll_1 ?_
  refine zY.iconst hO dX10_isSortOrAll_2 ?_
  refine zY.callS3iD (ct_X10_within ha ⟨by omega, by omega⟩ ⟨by omega, by omega⟩) (by decide) zcal_X10_within zml_X10_70 (Nat.le_of_ble_eq_true rfl) rfl ⟨Nat.zero_le _, Nat.zero_le _⟩ hO dX10_isSortOrAll_3 ?_
  exact zY.zret zb01 rfl ⟨_, rfl, ⟨rfl, rfl⟩⟩ hR hO dX10_isSortOrAll_6

set_option maxRecDepth 100000 in
set_option maxHeartbeats 4000000 in
theorem ct_X10_isRent {n : Nat} {sh : Nat → zShc} {μ : zMem} {a : Int} (ha : zr a) : Ci kX10_isRent 2 n sh [zI a] μ (fun r μ' => r = (if 10 ≤ a ∧ a ≤ 15 then 1 else 0) ∧ μ' = μ) := by
  refine Ct.of [some (zI a)] rfl (Nat.le_of_ble_eq_true rfl) (by decide +kernel) (fun Γ ad hO hR => ?_)
  refine zY.iload_n hO dX10_isRent_0 rfl ?_
  refine zY.bipush hO dX10_isRent_1 (by decide) ?_
  refine zY.bipush hO dX10_isRent_3 (by decide) ?_
  refine zY.callS3iD (ct_X10_within ha ⟨by omega, by omega⟩ ⟨by omega, by omega⟩) (by decide) zcal_X10_within zml_X10_70 (Nat.le_of_ble_eq_true rfl) rfl ⟨Nat.zero_le _, Nat.zero_le _⟩ hO dX10_isRent_5 ?_
  exact zY.zret zb01 rfl ⟨_, rfl, ⟨rfl, rfl⟩⟩ hR hO dX10_isRent_8

set_option maxRecDepth 100000 in
set_option maxHeartbeats 4000000 in
theorem ct_X6_letterOf {μ : zMem} {w i : Nat} (hw : w < 10) (hi : i < 5) : Ci kX6_letterOf 3 150 zSX [zP 1, zI (w : Int), zI (i : Int)] μ (fun a μ' => a = μ 7 (5 * w + i) ∧ μ' = μ) := by
  refine Ct.of [some (zP 1), some (zI (w : Int)), some (zI (i : Int))] rfl (Nat.le_of_ble_eq_true rfl) (by decide +kernel) (fun Γ ad hO hR => ?_)
  refine zY.aload_n hO dX6_letterOf_0 rfl ?_
  refine zY.getR zfl_X6_23 (by decide : 1 < 150) rfl rfl hO dX6_letterOf_1 ?_
  refine zY.iload_n hO dX6_letterOf_4 rfl ?_
  refine zY.iconst hO dX6_letterOf_5 ?_
  refine zY.imul hO dX6_letterOf_6 ?_
  refine zY.iload_n hO dX6_letterOf_7 rfl ?_
  refine zY.iadd hO dX6_letterOf_8 ?_
  refine zY.as (b := ((5 * w + i : Nat) : Int)) (by omega) ?_
  refine zY.callV1iD (ct_atN zrw_6 (j := 5 * w + i) (by omega)) (by decide) zcal_X5_at zml_X6_68 (by decide : 6 < 150) rfl rfl (Nat.le_of_ble_eq_true rfl) rfl ⟨Nat.zero_le _, Nat.zero_le _⟩ hO dX6_letterOf_9 ?_
  exact zY.iret rfl ⟨_, rfl, ⟨rfl, rfl⟩⟩ hR hO dX6_letterOf_12

set_option maxRecDepth 100000 in
set_option maxHeartbeats 4000000 in
theorem ct_X6_wordAt {μ : zMem} {s i : Nat} (hs : s < 6) (hi : i < 6) : Ci kX6_wordAt 3 150 zSX [zP 1, zI (s : Int), zI (i : Int)] μ (fun a μ' => a = μ 13 (6 * s + i) ∧ μ' = μ) := by
  refine Ct.of [some (zP 1), some (zI (s : Int)), some (zI (i : Int))] rfl (Nat.le_of_ble_eq_true rfl) (by decide +kernel) (fun Γ ad hO hR => ?_)
  refine zY.aload_n hO dX6_wordAt_0 rfl ?_
  refine zY.getR zfl_X6_32 (by decide : 1 < 150) rfl rfl hO dX6_wordAt_1 ?_
  refine zY.iload_n hO dX6_wordAt_4 rfl ?_
  refine zY.bipush hO dX6_wordAt_5 (by decide) ?_
  refine zY.imul hO dX6_wordAt_7 ?_
  refine zY.iload_n hO dX6_wordAt_8 rfl ?_
  refine zY.iadd hO dX6_wordAt_9 ?_
  refine zY.as (b := ((6 * s + i : Nat) : Int)) (by omega) ?_
  refine zY.callV1iD (ct_atN zrw_12 (j := 6 * s + i) (by omega)) (by decide) zcal_X5_at zml_X6_68 (by decide : 12 < 150) rfl rfl (Nat.le_of_ble_eq_true rfl) rfl ⟨Nat.zero_le _, Nat.zero_le _⟩ hO dX6_wordAt_10 ?_
  exact zY.iret rfl ⟨_, rfl, ⟨rfl, rfl⟩⟩ hR hO dX6_wordAt_13

/-- the sheets that are there, as bits -/
def zth (f : Nat → Int) : Nat → Nat
  | 0 => 0
  | k + 1 => if 0 < f k then zth f k ||| 2 ^ k else zth f k
theorem zth_lt (f : Nat → Int) : ∀ k, k ≤ 6 → zth f k < 2 ^ k
  | 0, _ => by simp [zth]
  | k + 1, h => by
    have h1 := zth_lt f k (by omega)
    have h2 : 2 ^ (k + 1) = 2 * 2 ^ k := by rw [Nat.pow_succ]; omega
    simp only [zth]
    split
    · rw [zb_add k (by omega) _ h1]
      omega
    · omega
theorem zth_64 (f : Nat → Int) {k : Nat} (h : k ≤ 6) : zth f k < 64 := Nat.lt_of_lt_of_le (zth_lt f k h) (Nat.pow_le_pow_right (by omega) h)

set_option maxRecDepth 100000 in
set_option maxHeartbeats 4000000 in
theorem ct_X6_there {μ : zMem} (hz : ∀ s, s < 6 → zr (μ 15 s)) : Ci kX6_there 3 150 zSX [zP 1] μ (fun a μ' => a = ((zth (μ 15) 6 : Nat) : Int) ∧ μ' = μ) := by
  refine Ct.of [some (zP 1), none, none] rfl (Nat.le_of_ble_eq_true rfl) (by decide +kernel) (fun Γ ad hO hR => ?_)
  refine zY.iconst hO dX6_there_0 ?_
  refine zY.istore1 (zc1_P _) hO dX6_there_1 ?_
  refine zY.iconst hO dX6_there_2 ?_
  refine zY.istore2 (zc1_I _) hO dX6_there_3 ?_
  have L4 : ∀ i : Nat, i ≤ 6 → zY Γ (150, zSX, ad, 0, 0) 4 [some (zP 1), some (zI ((zth (μ 15) i : Nat) : Int)), some (zI (i : Int))] [] μ := by
    refine zdown (6) (fun i hi_i ih4 => ?_)
    refine zY.iload_n hO dX6_there_4 rfl ?_
    refine zY.bipush hO dX6_there_5 (by decide) ?_
    refine zY.icmp_ge (tgt := 33) ⟨by omega, by omega⟩ ⟨by omega, by omega⟩ hO dX6_there_7 (by decide) (fun c7 => ?_) (fun c7 => ?_)
    ·
      refine zY.iload_n hO dX6_there_33 rfl ?_
      exact zY.iret rfl ⟨_, rfl, ⟨by rw [show i = 6 by omega], rfl⟩⟩ hR hO dX6_there_34
    ·
      refine zY.aload_n hO dX6_there_10 rfl ?_
      refine zY.getR zfl_X6_35 (by decide : 1 < 150) rfl rfl hO dX6_there_11 ?_
      refine zY.iload_n hO dX6_there_14 rfl ?_
      refine zY.as (b := ((i : Nat) : Int)) (by omega) ?_
      refine zY.callV1iD (ct_atN zrw_14 (j := i) (by omega)) (by decide) zcal_X5_at zml_X6_68 (by decide : 14 < 150) rfl rfl (Nat.le_of_ble_eq_true rfl) rfl ⟨Nat.zero_le _, Nat.zero_le _⟩ hO dX6_there_15 ?_
      refine zY.if_le (tgt := 27) (hz i (by omega)) hO dX6_there_18 (by decide) (fun c18 => ?_) (fun c18 => ?_)
      ·
        refine zY.iinc2 ((i + 1 : Nat) : Int) (by omega) (zc1_I _) hO dX6_there_27 ?_
        refine zY.goto (tgt := 4) hO dX6_there_30 (by decide) ?_
        have ih := ih4 (by omega)
        first
          | exact ih
          | (rw [show zth (μ 15) (i + 1) = zth (μ 15) i from (by simp only [zth]; rw [if_neg (by omega)])] at ih; exact ih)
      ·
        refine zY.iload_n hO dX6_there_21 rfl ?_
        refine zY.iconst hO dX6_there_22 ?_
        refine zY.iload_n hO dX6_there_23 rfl ?_
        refine zY.ishl (c := ((2 ^ i : Nat) : Int)) (zb_shl i (by omega)) hO dX6_there_24 ?_
        refine zY.ior (c := ((zth (μ 15) i ||| 2 ^ i : Nat) : Int)) (zb_or _ (zth_64 _ (by omega)) _ (Nat.pow_lt_pow_right (by omega) (by omega : i < 6))) hO dX6_there_25 ?_
        refine zY.as (b := ((zth (μ 15) (i + 1) : Nat) : Int)) (by simp only [zth]; rw [if_pos (by omega)]) ?_
        refine zY.istore1 (zc1_P _) hO dX6_there_26 ?_
        refine zY.iinc2 ((i + 1 : Nat) : Int) (by omega) (zc1_I _) hO dX6_there_27 ?_
        refine zY.goto (tgt := 4) hO dX6_there_30 (by decide) ?_
        have ih := ih4 (by omega)
        first
          | exact ih
          | (rw [show zth (μ 15) (i + 1) = zth (μ 15) i from (by simp only [zth]; rw [if_neg (by omega)])] at ih; exact ih)
  exact L4 0 (by omega)

def zBil (b nB : Nat) : Prop := b < 150 ∧ zSX b = (0, 0, [(0, b + 1), (0, b + 3)]) ∧ zRow 150 zSX (b + 1) (b + 2) (6 * nB) ∧ zRow 150 zSX (b + 3) (b + 4) nB ∧ 20 < b
def zStk (c : Nat) : Prop := c < 150 ∧ zSX c = (0, 7, [(0, c + 1), (0, c + 3)]) ∧ zRow 150 zSX (c + 1) (c + 2) 6 ∧ zRow 150 zSX (c + 3) (c + 4) 6 ∧ 20 < c
theorem zbl_57 : zBil 57 6 := ⟨by decide, rfl, zrw_58, zrw_60, by decide⟩
theorem zbl_63 : zBil 63 6 := ⟨by decide, rfl, zrw_64, zrw_66, by decide⟩
theorem zbl_78 : zBil 78 6 := ⟨by decide, rfl, zrw_79, zrw_81, by decide⟩
theorem zbl_97 : zBil 97 384 := ⟨by decide, rfl, zrw_98, zrw_100, by decide⟩
theorem zbl_111 : zBil 111 6 := ⟨by decide, rfl, zrw_112, zrw_114, by decide⟩
theorem zst_68 : zStk 68 := ⟨by decide, rfl, zrw_69, zrw_71, by decide⟩
theorem zst_83 : zStk 83 := ⟨by decide, rfl, zrw_84, zrw_86, by decide⟩
theorem zst_102 : zStk 102 := ⟨by decide, rfl, zrw_103, zrw_105, by decide⟩
theorem zst_116 : zStk 116 := ⟨by decide, rfl, zrw_117, zrw_119, by decide⟩

set_option maxRecDepth 100000 in
set_option maxHeartbeats 4000000 in
theorem ct_X0_amount {μ : zMem} {b nB : Nat} (hB : zBil b nB) {β x : Nat} (hβ : β < nB) (hx : x < 6) : Ci kX0_amount 3 150 zSX [zP b, zI (β : Int), zI (x : Int)] μ (fun a μ' => a = μ (b + 2) (6 * β + x) ∧ μ' = μ) := by
  refine Ct.of [some (zP b), some (zI (β : Int)), some (zI (x : Int))] rfl (Nat.le_of_ble_eq_true rfl) (by decide +kernel) (fun Γ ad hO hR => ?_)
  refine zY.iload_n hO dX0_amount_0 rfl ?_
  refine zY.if_lt (tgt := 8) ⟨by omega, by have := hB.2.2.2.1.2.2.2.2; omega⟩ hO dX0_amount_1 (by decide) (fun c1 => ?_) (fun c1 => ?_)
  ·
    exfalso
    omega
  ·
    refine zY.iload_n hO dX0_amount_4 rfl ?_
    refine zY.if_ge (tgt := 12) ⟨by omega, by omega⟩ hO dX0_amount_5 (by decide) (fun c5 => ?_) (fun c5 => ?_)
    ·
      refine zY.aload_n hO dX0_amount_12 rfl ?_
      refine zY.getR zfl_X0_14 hB.1 hB.2.1 rfl hO dX0_amount_13 ?_
      refine zY.iload_n hO dX0_amount_16 rfl ?_
      refine zY.bipush hO dX0_amount_17 (by decide) ?_
      refine zY.imul hO dX0_amount_19 ?_
      refine zY.iload_n hO dX0_amount_20 rfl ?_
      refine zY.iadd hO dX0_amount_21 ?_
      refine zY.as (b := ((6 * β + x : Nat) : Int)) (by omega) ?_
      refine zY.callV1iD (ct_atN hB.2.2.1 (j := 6 * β + x) (by omega)) (by decide) zcal_X5_at zml_X0_23 hB.2.2.1.1 hB.2.2.1.2.1 rfl (Nat.le_of_ble_eq_true rfl) rfl ⟨Nat.zero_le _, Nat.zero_le _⟩ hO dX0_amount_22 ?_
      exact zY.iret rfl ⟨_, rfl, ⟨rfl, rfl⟩⟩ hR hO dX0_amount_25
    ·
      exfalso
      omega

set_option maxRecDepth 100000 in
set_option maxHeartbeats 4000000 in
theorem ct_amountN {μ : zMem} {b nB : Nat} (hB : zBil b nB) {x : Nat} : Ci kX0_amount 3 150 zSX [zP b, zI (-6), zI (x : Int)] μ (fun a μ' => a = 0 ∧ μ' = μ) := by
  refine Ct.of [some (zP b), some (zI (-6)), some (zI (x : Int))] rfl (Nat.le_of_ble_eq_true rfl) (by decide +kernel) (fun Γ ad hO hR => ?_)
  refine zY.iload_n hO dX0_amount_0 rfl ?_
  refine zY.if_lt (tgt := 8) ⟨by omega, by omega⟩ hO dX0_amount_1 (by decide) (fun c1 => ?_) (fun c1 => ?_)
  ·
    refine zY.iconst hO dX0_amount_8 ?_
    refine zY.goto (tgt := 25) hO dX0_amount_9 (by decide) ?_
    exact zY.iret rfl ⟨_, rfl, ⟨rfl, rfl⟩⟩ hR hO dX0_amount_25
  ·
    exfalso
    omega

set_option maxRecDepth 100000 in
set_option maxHeartbeats 4000000 in
theorem ct_amountS {μ : zMem} {b nB : Nat} (hB : zBil b nB) {β : Nat} (hβ : β < nB) : Ci kX0_amount 3 150 zSX [zP b, zI (β : Int), zI (-6)] μ (fun a μ' => a = 0 ∧ μ' = μ) := by
  refine Ct.of [some (zP b), some (zI (β : Int)), some (zI (-6))] rfl (Nat.le_of_ble_eq_true rfl) (by decide +kernel) (fun Γ ad hO hR => ?_)
  refine zY.iload_n hO dX0_amount_0 rfl ?_
  refine zY.if_lt (tgt := 8) ⟨by omega, by have := hB.2.2.2.1.2.2.2.2; omega⟩ hO dX0_amount_1 (by decide) (fun c1 => ?_) (fun c1 => ?_)
  ·
    exfalso
    omega
  ·
    refine zY.iload_n hO dX0_amount_4 rfl ?_
    refine zY.if_ge (tgt := 12) ⟨by omega, by omega⟩ hO dX0_amount_5 (by decide) (fun c5 => ?_) (fun c5 => ?_)
    ·
      exfalso
      omega
    ·
      refine zY.iconst hO dX0_amount_8 ?_
      refine zY.goto (tgt := 25) hO dX0_amount_9 (by decide) ?_
      exact zY.iret rfl ⟨_, rfl, ⟨rfl, rfl⟩⟩ hR hO dX0_amount_25

theorem ct_amountB {μ : zMem} {b nB : Nat} (hB : zBil b nB) {β : Nat} (hβ : β < nB) {v : Int} (hv : v = -6 ∨ (0 ≤ v ∧ v < 6)) : Ci kX0_amount 3 150 zSX [zP b, zI (β : Int), zI v] μ (fun a μ' => a = (if v = -6 then 0 else μ (b + 2) (6 * β + v.toNat)) ∧ μ' = μ) := by
  rcases hv with e | ⟨h0, h1⟩
  · subst e
    exact (ct_amountS hB hβ).imp (fun a μ' hp => ⟨by rw [hp.1, if_pos rfl], hp.2⟩)
  · obtain ⟨x, rfl⟩ : ∃ x : Nat, v = (x : Int) := ⟨v.toNat, by omega⟩
    exact (ct_X0_amount hB hβ (by omega)).imp (fun a μ' hp => ⟨by rw [hp.1, if_neg (by omega), Int.toNat_natCast], hp.2⟩)

set_option maxRecDepth 100000 in
set_option maxHeartbeats 4000000 in
theorem ct_X0_broken {μ : zMem} {b nB : Nat} (hB : zBil b nB) {β : Nat} (hβ : β < nB) : Ci kX0_broken 3 150 zSX [zP b, zI (β : Int)] μ (fun a μ' => a = μ (b + 4) β ∧ μ' = μ) := by
  refine Ct.of [some (zP b), some (zI (β : Int))] rfl (Nat.le_of_ble_eq_true rfl) (by decide +kernel) (fun Γ ad hO hR => ?_)
  refine zY.aload_n hO dX0_broken_0 rfl ?_
  refine zY.getR zfl_X0_20 hB.1 hB.2.1 rfl hO dX0_broken_1 ?_
  refine zY.iload_n hO dX0_broken_4 rfl ?_
  refine zY.as (b := ((β : Nat) : Int)) (by omega) ?_
  refine zY.callV1iD (ct_atN hB.2.2.2.1 (j := β) (by omega)) (by decide) zcal_X5_at zml_X0_23 hB.2.2.2.1.1 hB.2.2.2.1.2.1 rfl (Nat.le_of_ble_eq_true rfl) rfl ⟨Nat.zero_le _, Nat.zero_le _⟩ hO dX0_broken_5 ?_
  exact zY.iret rfl ⟨_, rfl, ⟨rfl, rfl⟩⟩ hR hO dX0_broken_8

theorem zadd_step {D : zBk} {w i x β : Nat} {g : Nat → Int} (hx : D 0 (5 * w + i) = (x : Int)) (hx6 : x < 6) (j : Nat) :
    (if j = 6 * β + x then (if 6 * β ≤ 6 * β + x ∧ 6 * β + x < 6 * β + 6 then g (6 * β + x) + zcw D w i (6 * β + x - 6 * β) else g (6 * β + x)) + 1 else if 6 * β ≤ j ∧ j < 6 * β + 6 then g j + zcw D w i (j - 6 * β) else g j) = if 6 * β ≤ j ∧ j < 6 * β + 6 then g j + zcw D w (i + 1) (j - 6 * β) else g j := by
  simp only [zcw]
  by_cases h1 : j = 6 * β + x
  · subst h1
    rw [if_pos rfl, if_pos ⟨by omega, by omega⟩, if_pos ⟨by omega, by omega⟩, if_pos (by rw [hx]; omega)]
    omega
  · rw [if_neg h1]
    by_cases h2 : 6 * β ≤ j ∧ j < 6 * β + 6
    · rw [if_pos h2, if_pos h2, if_neg (by rw [hx]; omega)]
      omega
    · rw [if_neg h2, if_neg h2]

set_option maxRecDepth 100000 in
set_option maxHeartbeats 4000000 in
theorem ct_X0_addLetters {μ : zMem} {b nB : Nat} (hB : zBil b nB) {D : zBk} {β w : Nat} (hW : zWF D) (hS : zShp 1 D μ) (hβ : β < nB) (hw : w < 10) : Cv kX0_addLetters 4 150 zSX [zP b, zI (β : Int), zP 1, zI (w : Int)] μ (fun μ' => μ' = zrow μ (b + 2) (fun j => if 6 * β ≤ j ∧ j < 6 * β + 6 then μ (b + 2) j + zcw D w (D 1 w).toNat (j - 6 * β) else μ (b + 2) j)) := by
  refine Ct.of [some (zP b), some (zI (β : Int)), some (zP 1), some (zI (w : Int)), none] rfl (Nat.le_of_ble_eq_true rfl) (by decide +kernel) (fun Γ ad hO hR => ?_)
  refine zY.iconst hO dX0_addLetters_0 ?_
  refine zY.istore4 (zc1_I _) hO dX0_addLetters_1 ?_
  have L3 : ∀ i : Nat, i ≤ (D 1 w).toNat → ∀ μ1 : zMem, μ1 = zrow μ (b + 2) (fun j => if 6 * β ≤ j ∧ j < 6 * β + 6 then μ (b + 2) j + zcw D w i (j - 6 * β) else μ (b + 2) j) → zY Γ (150, zSX, ad, 0, 0) 3 [some (zP b), some (zI (β : Int)), some (zP 1), some (zI (w : Int)), some (zI (i : Int))] [] μ1 := by
    refine zdown ((D 1 w).toNat) (fun i hi_i ih3 => ?_)
    intro μ1 hI
    have h20 := hB.2.2.2.2
    refine zY.iload hO dX0_addLetters_3 rfl ?_
    refine zY.aload_n hO dX0_addLetters_5 rfl ?_
    refine zY.getR zfl_X0_54 (by decide : 1 < 150) rfl rfl hO dX0_addLetters_6 ?_
    refine zY.iload_n hO dX0_addLetters_9 rfl ?_
    refine zY.as (b := ((w : Nat) : Int)) (by omega) ?_
    refine zY.callV1iD (ct_atN zrw_8 (j := w) (by omega)) (by decide) zcal_X5_at zml_X0_23 (by decide : 8 < 150) rfl rfl (Nat.le_of_ble_eq_true rfl) rfl ⟨Nat.zero_le _, Nat.zero_le _⟩ hO dX0_addLetters_10 ?_
    have hl := hW.1 w hw
    refine zY.as (b := D 1 w) (by rw [hI, zrow_ne (by omega)]; exact (hS.1 w hw).1) ?_
    refine zY.icmp_ge (tgt := 42) ⟨by omega, by omega⟩ ⟨by omega, by omega⟩ hO dX0_addLetters_13 (by decide) (fun c13 => ?_) (fun c13 => ?_)
    ·
      exact zY.vret rfl ⟨rfl, (by rw [hI, show i = (D 1 w).toNat by omega])⟩ hR hO dX0_addLetters_42
    ·
      refine zY.aload_n hO dX0_addLetters_16 rfl ?_
      refine zY.getR zfl_X0_14 hB.1 hB.2.1 rfl hO dX0_addLetters_17 ?_
      refine zY.iload_n hO dX0_addLetters_20 rfl ?_
      refine zY.bipush hO dX0_addLetters_21 (by decide) ?_
      refine zY.imul hO dX0_addLetters_23 ?_
      refine zY.aload_n hO dX0_addLetters_24 rfl ?_
      refine zY.iload_n hO dX0_addLetters_25 rfl ?_
      refine zY.iload hO dX0_addLetters_26 rfl ?_
      refine zY.callV2iD (ct_X6_letterOf hw (by omega)) (by decide) zcal_X6_letterOf zml_X0_51 (by decide : 1 < 150) rfl rfl (Nat.le_of_ble_eq_true rfl) rfl ⟨Nat.zero_le _, Nat.zero_le _⟩ hO dX0_addLetters_28 ?_
      obtain ⟨x, hx⟩ : ∃ x : Nat, D 0 (5 * w + i) = (x : Int) := ⟨(D 0 (5 * w + i)).toNat, by have := hl.2.2.2.2.2 i (by omega); omega⟩
      have hx6 := hl.2.2.2.2.2 i (by omega)
      refine zY.as (b := (x : Int)) (by rw [hI, zrow_ne (by omega), ← hx]; exact (hS.1 w hw).2.2 i (by omega)) ?_
      refine zY.iadd hO dX0_addLetters_31 ?_
      refine zY.iconst hO dX0_addLetters_32 ?_
      refine zY.as2 (b := ((6 * β + x : Nat) : Int)) (by omega) ?_
      refine zY.callV2vD (ct_X5_add hB.2.2.1 (j := 6 * β + x) (by omega)) (by decide) zcal_X5_add zml_X0_68 hB.2.2.1.1 hB.2.2.1.2.1 rfl (Nat.le_of_ble_eq_true rfl) rfl ⟨Nat.zero_le _, Nat.zero_le _⟩ hO dX0_addLetters_33 ?_
      refine zY.iinc4 ((i + 1 : Nat) : Int) (by omega) (zc1_I _) hO dX0_addLetters_36 ?_
      refine zY.goto (tgt := 3) hO dX0_addLetters_39 (by decide) ?_
      exact ih3 (by omega) _ (by rw [hI, zrow_eq, zwr_row]; exact zrow_congr (fun j => zadd_step hx (by omega) j))
  exact L3 0 (by omega) μ (by rw [zrow_self]; intro j; split <;> simp [zcw])

theorem zbst_new {law : Int} {A : Nat → Int} {i : Nat} (h : 0 < A i ∧ (zbst law A i = -6 ∨ (law = 0 ∧ A (zbst law A i).toNat < A i) ∨ (law ≠ 0 ∧ A i < A (zbst law A i).toNat))) : zbst law A (i + 1) = (i : Int) := by
  simp only [zbst]
  rw [if_pos h]
theorem zbst_old {law : Int} {A : Nat → Int} {i : Nat} (h : ¬ (0 < A i ∧ (zbst law A i = -6 ∨ (law = 0 ∧ A (zbst law A i).toNat < A i) ∨ (law ≠ 0 ∧ A i < A (zbst law A i).toNat)))) : zbst law A (i + 1) = zbst law A i := by
  simp only [zbst]
  rw [if_neg h]

set_option maxRecDepth 100000 in
set_option maxHeartbeats 4000000 in
theorem ct_X0_byLaw {μ : zMem} {b nB : Nat} (hB : zBil b nB) {β : Nat} {law fi la : Int} {A : Nat → Int} (hAm : ∀ x, x < 6 → μ (b + 2) (6 * β + x) = A x) (hA : ∀ x, x < 6 → 0 ≤ A x ∧ A x ≤ 1000) (hl : zr law) (hβ : β < nB)  : Ci kX0_byLaw 5 150 zSX [zP b, zI (β : Int), zI law, zI fi, zI la] μ (fun a μ' => a = (if law = 2 then fi else if law = 3 then la else zbst law A 6) ∧ μ' = μ) := by
  refine Ct.of [some (zP b), some (zI (β : Int)), some (zI law), some (zI fi), some (zI la), none, none, none] rfl (Nat.le_of_ble_eq_true rfl) (by decide +kernel) (fun Γ ad hO hR => ?_)
  refine zY.iload_n hO dX0_byLaw_0 rfl ?_
  refine zY.iconst hO dX0_byLaw_1 ?_
  refine zY.icmp_ne (tgt := 7) hl ⟨by omega, by omega⟩ hO dX0_byLaw_2 (by decide) (fun c2 => ?_) (fun c2 => ?_)
  ·
    refine zY.iload_n hO dX0_byLaw_7 rfl ?_
    refine zY.iconst hO dX0_byLaw_8 ?_
    refine zY.icmp_ne (tgt := 15) hl ⟨by omega, by omega⟩ hO dX0_byLaw_9 (by decide) (fun c9 => ?_) (fun c9 => ?_)
    ·
      refine zY.bipush hO dX0_byLaw_15 (by decide) ?_
      refine zY.istore5 (zc1_I _) hO dX0_byLaw_17 ?_
      refine zY.iconst hO dX0_byLaw_19 ?_
      refine zY.istore6 (zc1_I _) hO dX0_byLaw_20 ?_
      have L22 : ∀ i : Nat, i ≤ 6 → zY Γ (150, zSX, ad, 0, 0) 22 [some (zP b), some (zI (β : Int)), some (zI law), some (zI fi), some (zI la), some (zI (zbst law A i)), some (zI (i : Int)), none] [] μ := by
        refine zdown (6) (fun i hi_i ih22 => ?_)
        have hbs := zbst_b law A i
        refine zY.iload hO dX0_byLaw_22 rfl ?_
        refine zY.bipush hO dX0_byLaw_24 (by decide) ?_
        refine zY.icmp_ge (tgt := 90) ⟨by omega, by omega⟩ ⟨by omega, by omega⟩ hO dX0_byLaw_26 (by decide) (fun c26 => ?_) (fun c26 => ?_)
        ·
          refine zY.iload hO dX0_byLaw_90 rfl ?_
          exact zY.iret rfl ⟨_, rfl, ⟨by rw [if_neg (by omega), if_neg (by omega), show i = 6 by omega], rfl⟩⟩ hR hO dX0_byLaw_92
        ·
          refine zY.aload_n hO dX0_byLaw_29 rfl ?_
          refine zY.iload_n hO dX0_byLaw_30 rfl ?_
          refine zY.iload hO dX0_byLaw_31 rfl ?_
          refine zY.callV2iD (ct_X0_amount hB hβ (by omega)) (by decide) zcal_X0_amount zml_X0_71 hB.1 hB.2.1 rfl (Nat.le_of_ble_eq_true rfl) rfl ⟨Nat.zero_le _, Nat.zero_le _⟩ hO dX0_byLaw_33 ?_
          refine zY.as (hAm i (by omega)) ?_
          have hAi := hA i (by omega)
          refine zY.aload_n hO dX0_byLaw_36 rfl ?_
          refine zY.iload_n hO dX0_byLaw_37 rfl ?_
          refine zY.iload hO dX0_byLaw_38 rfl ?_
          refine zY.callV2iD (ct_amountB hB hβ (v := zbst law A i) (by omega)) (by decide) zcal_X0_amount zml_X0_71 hB.1 hB.2.1 rfl (Nat.le_of_ble_eq_true rfl) rfl ⟨Nat.zero_le _, Nat.zero_le _⟩ hO dX0_byLaw_40 ?_
          obtain ⟨bq, hbq⟩ : ∃ bq : Int, bq = (if zbst law A i = -6 then 0 else A (zbst law A i).toNat) := ⟨_, rfl⟩
          refine zY.as (b := bq) (by
            rw [hbq]
            split
            · rfl
            · exact hAm _ (by omega)) ?_
          have hbr : 0 ≤ bq ∧ bq ≤ 1000 := by
            rw [hbq]
            split
            · exact ⟨by omega, by omega⟩
            · exact hA _ (by omega)
          refine zY.isub hO dX0_byLaw_43 ?_
          refine zY.istore7 (zc1_I _) hO dX0_byLaw_44 ?_
          refine zY.aload_n hO dX0_byLaw_46 rfl ?_
          refine zY.iload_n hO dX0_byLaw_47 rfl ?_
          refine zY.iload hO dX0_byLaw_48 rfl ?_
          refine zY.callV2iD (ct_X0_amount hB hβ (by omega)) (by decide) zcal_X0_amount zml_X0_71 hB.1 hB.2.1 rfl (Nat.le_of_ble_eq_true rfl) rfl ⟨Nat.zero_le _, Nat.zero_le _⟩ hO dX0_byLaw_50 ?_
          refine zY.as (hAm i (by omega)) ?_
          refine zY.if_le (tgt := 84) ⟨by omega, by omega⟩ hO dX0_byLaw_53 (by decide) (fun c53 => ?_) (fun c53 => ?_)
          ·
            refine zY.iinc6 ((i + 1 : Nat) : Int) (by omega) (zc1_I _) hO dX0_byLaw_84 ?_
            refine zY.goto (tgt := 22) hO dX0_byLaw_87 (by decide) ?_
            refine zY.none7 ?_
            have ih := ih22 (by omega)
            first
              | (rw [zbst_new ⟨by omega, Or.inl c60⟩] at ih; exact ih)
              | (rw [zbst_new ⟨by omega, Or.inr (by rw [hy, Int.toNat_natCast]; omega)⟩] at ih; exact ih)
              | (rw [zbst_old (fun z => by omega)] at ih; exact ih)
              | (rw [zbst_old (fun z => by rw [hy, Int.toNat_natCast] at z; omega)] at ih; exact ih)
          ·
            refine zY.iload hO dX0_byLaw_56 rfl ?_
            refine zY.bipush hO dX0_byLaw_58 (by decide) ?_
            refine zY.icmp_eq (tgt := 80) ⟨by omega, by omega⟩ ⟨by omega, by omega⟩ hO dX0_byLaw_60 (by decide) (fun c60 => ?_) (fun c60 => ?_)
            ·
              refine zY.iload hO dX0_byLaw_80 rfl ?_
              refine zY.istore5 (zc1_I _) hO dX0_byLaw_82 ?_
              refine zY.iinc6 ((i + 1 : Nat) : Int) (by omega) (zc1_I _) hO dX0_byLaw_84 ?_
              refine zY.goto (tgt := 22) hO dX0_byLaw_87 (by decide) ?_
              refine zY.none7 ?_
              have ih := ih22 (by omega)
              first
                | (rw [zbst_new ⟨by omega, Or.inl c60⟩] at ih; exact ih)
                | (rw [zbst_new ⟨by omega, Or.inr (by rw [hy, Int.toNat_natCast]; omega)⟩] at ih; exact ih)
                | (rw [zbst_old (fun z => by omega)] at ih; exact ih)
                | (rw [zbst_old (fun z => by rw [hy, Int.toNat_natCast] at z; omega)] at ih; exact ih)
            ·
              obtain ⟨y, hy⟩ : ∃ y : Nat, zbst law A i = (y : Int) := ⟨(zbst law A i).toNat, by omega⟩
              have hby : bq = A y := by rw [hbq, if_neg c60, hy, Int.toNat_natCast]
              refine zY.iload_n hO dX0_byLaw_63 rfl ?_
              refine zY.if_ne (tgt := 75) hl hO dX0_byLaw_64 (by decide) (fun c64 => ?_) (fun c64 => ?_)
              ·
                refine zY.iload hO dX0_byLaw_75 rfl ?_
                refine zY.if_ge (tgt := 84) ⟨by omega, by omega⟩ hO dX0_byLaw_77 (by decide) (fun c77 => ?_) (fun c77 => ?_)
                ·
                  refine zY.iinc6 ((i + 1 : Nat) : Int) (by omega) (zc1_I _) hO dX0_byLaw_84 ?_
                  refine zY.goto (tgt := 22) hO dX0_byLaw_87 (by decide) ?_
                  refine zY.none7 ?_
                  have ih := ih22 (by omega)
                  first
                    | (rw [zbst_new ⟨by omega, Or.inl c60⟩] at ih; exact ih)
                    | (rw [zbst_new ⟨by omega, Or.inr (by rw [hy, Int.toNat_natCast]; omega)⟩] at ih; exact ih)
                    | (rw [zbst_old (fun z => by omega)] at ih; exact ih)
                    | (rw [zbst_old (fun z => by rw [hy, Int.toNat_natCast] at z; omega)] at ih; exact ih)
                ·
                  refine zY.iload hO dX0_byLaw_80 rfl ?_
                  refine zY.istore5 (zc1_I _) hO dX0_byLaw_82 ?_
                  refine zY.iinc6 ((i + 1 : Nat) : Int) (by omega) (zc1_I _) hO dX0_byLaw_84 ?_
                  refine zY.goto (tgt := 22) hO dX0_byLaw_87 (by decide) ?_
                  refine zY.none7 ?_
                  have ih := ih22 (by omega)
                  first
                    | (rw [zbst_new ⟨by omega, Or.inl c60⟩] at ih; exact ih)
                    | (rw [zbst_new ⟨by omega, Or.inr (by rw [hy, Int.toNat_natCast]; omega)⟩] at ih; exact ih)
                    | (rw [zbst_old (fun z => by omega)] at ih; exact ih)
                    | (rw [zbst_old (fun z => by rw [hy, Int.toNat_natCast] at z; omega)] at ih; exact ih)
              ·
                refine zY.iload hO dX0_byLaw_67 rfl ?_
                refine zY.if_le (tgt := 84) ⟨by omega, by omega⟩ hO dX0_byLaw_69 (by decide) (fun c69 => ?_) (fun c69 => ?_)
                ·
                  refine zY.iinc6 ((i + 1 : Nat) : Int) (by omega) (zc1_I _) hO dX0_byLaw_84 ?_
                  refine zY.goto (tgt := 22) hO dX0_byLaw_87 (by decide) ?_
                  refine zY.none7 ?_
                  have ih := ih22 (by omega)
                  first
                    | (rw [zbst_new ⟨by omega, Or.inl c60⟩] at ih; exact ih)
                    | (rw [zbst_new ⟨by omega, Or.inr (by rw [hy, Int.toNat_natCast]; omega)⟩] at ih; exact ih)
                    | (rw [zbst_old (fun z => by omega)] at ih; exact ih)
                    | (rw [zbst_old (fun z => by rw [hy, Int.toNat_natCast] at z; omega)] at ih; exact ih)
                ·
                  refine zY.goto (tgt := 80) hO dX0_byLaw_72 (by decide) ?_
                  refine zY.iload hO dX0_byLaw_80 rfl ?_
                  refine zY.istore5 (zc1_I _) hO dX0_byLaw_82 ?_
                  refine zY.iinc6 ((i + 1 : Nat) : Int) (by omega) (zc1_I _) hO dX0_byLaw_84 ?_
                  refine zY.goto (tgt := 22) hO dX0_byLaw_87 (by decide) ?_
                  refine zY.none7 ?_
                  have ih := ih22 (by omega)
                  first
                    | (rw [zbst_new ⟨by omega, Or.inl c60⟩] at ih; exact ih)
                    | (rw [zbst_new ⟨by omega, Or.inr (by rw [hy, Int.toNat_natCast]; omega)⟩] at ih; exact ih)
                    | (rw [zbst_old (fun z => by omega)] at ih; exact ih)
                    | (rw [zbst_old (fun z => by rw [hy, Int.toNat_natCast] at z; omega)] at ih; exact ih)
      exact L22 0 (by omega)
    ·
      refine zY.iload hO dX0_byLaw_12 rfl ?_
      exact zY.iret rfl ⟨_, rfl, ⟨by rw [if_neg (by omega), if_pos (by omega)], rfl⟩⟩ hR hO dX0_byLaw_14
  ·
    refine zY.iload_n hO dX0_byLaw_5 rfl ?_
    exact zY.iret rfl ⟨_, rfl, ⟨by rw [if_pos (by omega)], rfl⟩⟩ hR hO dX0_byLaw_6
