/-! Pad -/
theorem zfo_in {D : zBk} {two : Bool} {left : Nat} {colon : Int} {i : Nat} (h : i < zN D) : zfo D two (zN D - i) left colon i = if D 9 i = 58 ∧ two = true ∧ colon < 0 ∧ 0 < i then zfo D two (zN D - (i + 1)) left (i : Int) (i + 1)
      else if 48 ≤ D 9 i ∧ D 9 i ≤ 53 ∧ left.testBit (D 9 i - 48).toNat = true then zfo D two (zN D - (i + 1)) (left - (left &&& 2 ^ (D 9 i - 48).toNat)) colon (i + 1) else (i : Int) := by
  rw [show zN D - i = (zN D - (i + 1)) + 1 by omega]
  rfl
theorem zfo_end {D : zBk} {two : Bool} {left : Nat} {colon : Int} : zfo D two (zN D - zN D) left colon (zN D) = if two = true then (if colon < 0 ∨ colon = (zN D : Int) - 1 then (zN D : Int) else -6) else if zN D = 0 then (zN D : Int) else -6 := by
  rw [Nat.sub_self]
  rfl
/-- the colon's place; -6: there is none -/
def zcol (D : zBk) : Int := zfst (fun i => decide (D 9 i = 58)) 0 (zN D)

set_option maxRecDepth 100000 in
set_option maxHeartbeats 4000000 in
theorem ct_X3_count {μ : zMem}  : Ci kX3_count 1 150 zSX [zP 18] μ (fun a μ' => a = μ 18 1 ∧ μ' = μ) := by
  refine Ct.of [some (zP 18)] rfl (Nat.le_of_ble_eq_true rfl) (by decide +kernel) (fun Γ ad hO hR => ?_)
  refine zY.aload_n hO dX3_count_0 rfl ?_
  refine zY.getI zfl_X3_20 (by decide : 18 < 150) rfl rfl hO dX3_count_1 ?_
  exact zY.iret rfl ⟨_, rfl, ⟨rfl, rfl⟩⟩ hR hO dX3_count_4

set_option maxRecDepth 100000 in
set_option maxHeartbeats 4000000 in
theorem ct_X3_add {μ : zMem} {N : Nat} {s : Int} (hN : μ 18 1 = (N : Int)) (h14 : N < 14) : Ci kX3_add 3 150 zSX [zP 18, zI s] μ (fun a μ' => a = (N : Int) + 1 ∧ μ' = zwr (zwr μ 20 N s) 18 1 ((N : Int) + 1)) := by
  refine Ct.of [some (zP 18), some (zI s)] rfl (Nat.le_of_ble_eq_true rfl) (by decide +kernel) (fun Γ ad hO hR => ?_)
  refine zY.aload_n hO dX3_add_0 rfl ?_
  refine zY.getR zfl_X3_14 (by decide : 18 < 150) rfl rfl hO dX3_add_1 ?_
  refine zY.aload_n hO dX3_add_4 rfl ?_
  refine zY.getI zfl_X3_20 (by decide : 18 < 150) rfl rfl hO dX3_add_5 ?_
  refine zY.iload_n hO dX3_add_8 rfl ?_
  refine zY.as2 (b := ((N : Nat) : Int)) (by omega) ?_
  refine zY.callV2vD (ct_putN zrw_19 (j := N) (by omega)) (by decide) zcal_X5_put zml_X3_24 (by decide : 19 < 150) rfl rfl (Nat.le_of_ble_eq_true rfl) rfl ⟨Nat.zero_le _, Nat.zero_le _⟩ hO dX3_add_9 ?_
  refine zY.aload_n hO dX3_add_12 rfl ?_
  refine zY.dup rfl hO dX3_add_13 ?_
  refine zY.getI zfl_X3_20 (by decide : 18 < 150) rfl rfl hO dX3_add_14 ?_
  refine zY.iconst hO dX3_add_17 ?_
  refine zY.iadd hO dX3_add_18 ?_
  refine zY.as (b := (N : Int) + 1) (by rw [zwr_ne (by decide)]; omega) ?_
  refine zY.putI zfp_X3_20 (by decide : 18 < 150) rfl rfl hO dX3_add_19 ?_
  refine zY.aload_n hO dX3_add_22 rfl ?_
  refine zY.getI zfl_X3_20 (by decide : 18 < 150) rfl rfl hO dX3_add_23 ?_
  exact zY.iret rfl ⟨_, rfl, ⟨by simp [zwr], rfl⟩⟩ hR hO dX3_add_26

set_option maxRecDepth 100000 in
set_option maxHeartbeats 4000000 in
theorem ct_X3_empty {μ : zMem}  : Ci kX3_empty 1 150 zSX [zP 18] μ (fun a μ' => a = μ 18 1 ∧ μ' = zwr μ 18 1 0) := by
  refine Ct.of [some (zP 18), none] rfl (Nat.le_of_ble_eq_true rfl) (by decide +kernel) (fun Γ ad hO hR => ?_)
  refine zY.aload_n hO dX3_empty_0 rfl ?_
  refine zY.getI zfl_X3_20 (by decide : 18 < 150) rfl rfl hO dX3_empty_1 ?_
  refine zY.istore1 (zc1_P _) hO dX3_empty_4 ?_
  refine zY.aload_n hO dX3_empty_5 rfl ?_
  refine zY.iconst hO dX3_empty_6 ?_
  refine zY.putI zfp_X3_20 (by decide : 18 < 150) rfl rfl hO dX3_empty_7 ?_
  refine zY.iload_n hO dX3_empty_10 rfl ?_
  exact zY.iret rfl ⟨_, rfl, ⟨rfl, rfl⟩⟩ hR hO dX3_empty_11

set_option maxRecDepth 100000 in
set_option maxHeartbeats 4000000 in
theorem ct_X3_letterAt {μ : zMem} {i : Nat} (hi : i < 14) : Ci kX3_letterAt 3 150 zSX [zP 18, zI (i : Int)] μ (fun a μ' => a = μ 20 i - 97 ∧ μ' = μ) := by
  refine Ct.of [some (zP 18), some (zI (i : Int))] rfl (Nat.le_of_ble_eq_true rfl) (by decide +kernel) (fun Γ ad hO hR => ?_)
  refine zY.aload_n hO dX3_letterAt_0 rfl ?_
  refine zY.getR zfl_X3_14 (by decide : 18 < 150) rfl rfl hO dX3_letterAt_1 ?_
  refine zY.iload_n hO dX3_letterAt_4 rfl ?_
  refine zY.as (b := ((i : Nat) : Int)) (by omega) ?_
  refine zY.callV1iD (ct_atN zrw_19 (j := i) (by omega)) (by decide) zcal_X5_at zml_X3_28 (by decide : 19 < 150) rfl rfl (Nat.le_of_ble_eq_true rfl) rfl ⟨Nat.zero_le _, Nat.zero_le _⟩ hO dX3_letterAt_5 ?_
  refine zY.bipush hO dX3_letterAt_8 (by decide) ?_
  refine zY.isub hO dX3_letterAt_10 ?_
  exact zY.iret rfl ⟨_, rfl, ⟨rfl, rfl⟩⟩ hR hO dX3_letterAt_11

set_option maxRecDepth 100000 in
set_option maxHeartbeats 4000000 in
theorem ct_X3_digitAt {μ : zMem} {i : Nat} (hi : i < 14) : Ci kX3_digitAt 3 150 zSX [zP 18, zI (i : Int)] μ (fun a μ' => a = μ 20 i - 48 ∧ μ' = μ) := by
  refine Ct.of [some (zP 18), some (zI (i : Int))] rfl (Nat.le_of_ble_eq_true rfl) (by decide +kernel) (fun Γ ad hO hR => ?_)
  refine zY.aload_n hO dX3_digitAt_0 rfl ?_
  refine zY.getR zfl_X3_14 (by decide : 18 < 150) rfl rfl hO dX3_digitAt_1 ?_
  refine zY.iload_n hO dX3_digitAt_4 rfl ?_
  refine zY.as (b := ((i : Nat) : Int)) (by omega) ?_
  refine zY.callV1iD (ct_atN zrw_19 (j := i) (by omega)) (by decide) zcal_X5_at zml_X3_28 (by decide : 19 < 150) rfl rfl (Nat.le_of_ble_eq_true rfl) rfl ⟨Nat.zero_le _, Nat.zero_le _⟩ hO dX3_digitAt_5 ?_
  refine zY.bipush hO dX3_digitAt_8 (by decide) ?_
  refine zY.isub hO dX3_digitAt_10 ?_
  exact zY.iret rfl ⟨_, rfl, ⟨rfl, rfl⟩⟩ hR hO dX3_digitAt_11

set_option maxRecDepth 100000 in
set_option maxHeartbeats 4000000 in
theorem ct_X3_colon {μ : zMem} {D : zBk} (hW : zWF D) (hp : zPad D μ)  : Ci kX3_colon 3 150 zSX [zP 18] μ (fun a μ' => a = (if zcol D = -6 then (zN D : Int) else zcol D) ∧ μ' = μ) := by
  refine Ct.of [some (zP 18), none] rfl (Nat.le_of_ble_eq_true rfl) (by decide +kernel) (fun Γ ad hO hR => ?_)
  have hn := zN_eq hW
  refine zY.iconst hO dX3_colon_0 ?_
  refine zY.istore1 (zc1_P _) hO dX3_colon_1 ?_
  have L2 : ∀ i : Nat, i ≤ zN D → zcol D = zfst (fun i => decide (D 9 i = 58)) i (zN D - i) → zY Γ (150, zSX, ad, 0, 0) 2 [some (zP 18), some (zI (i : Int))] [] μ := by
    refine zdown (zN D) (fun i hi_i ih2 => ?_)
    intro hV
    refine zY.iload_n hO dX3_colon_2 rfl ?_
    refine zY.aload_n hO dX3_colon_3 rfl ?_
    refine zY.getI zfl_X3_20 (by decide : 18 < 150) rfl rfl hO dX3_colon_4 ?_
    refine zY.as (b := (zN D : Int)) (hp.2.trans hn.1) ?_
    refine zY.icmp_ge (tgt := 31) ⟨by omega, by omega⟩ ⟨by omega, by omega⟩ hO dX3_colon_7 (by decide) (fun c7 => ?_) (fun c7 => ?_)
    ·
      refine zY.aload_n hO dX3_colon_31 rfl ?_
      refine zY.getI zfl_X3_20 (by decide : 18 < 150) rfl rfl hO dX3_colon_32 ?_
      have hiN : i = zN D := by omega
      subst hiN
      refine zY.as (b := (zN D : Int)) (hp.2.trans hn.1) ?_
      exact zY.iret rfl ⟨_, rfl, ⟨by rw [hV, zfst_end, if_pos rfl], rfl⟩⟩ hR hO dX3_colon_35
    ·
      refine zY.aload_n hO dX3_colon_10 rfl ?_
      refine zY.getR zfl_X3_14 (by decide : 18 < 150) rfl rfl hO dX3_colon_11 ?_
      refine zY.iload_n hO dX3_colon_14 rfl ?_
      refine zY.as (b := ((i : Nat) : Int)) (by omega) ?_
      refine zY.callV1iD (ct_atN zrw_19 (j := i) (by omega)) (by decide) zcal_X5_at zml_X3_28 (by decide : 19 < 150) rfl rfl (Nat.le_of_ble_eq_true rfl) rfl ⟨Nat.zero_le _, Nat.zero_le _⟩ hO dX3_colon_15 ?_
      have hd := hW.2.2.2.2.2.2.2.2 i (by omega)
      refine zY.as (b := D 9 i) (hp.1 i (by omega)) ?_
      refine zY.bipush hO dX3_colon_18 (by decide) ?_
      refine zY.icmp_ne (tgt := 25) ⟨by omega, by omega⟩ ⟨by omega, by omega⟩ hO dX3_colon_20 (by decide) (fun c20 => ?_) (fun c20 => ?_)
      ·
        refine zY.iinc1 ((i + 1 : Nat) : Int) (by omega) (zc1_P _) hO dX3_colon_25 ?_
        refine zY.goto (tgt := 2) hO dX3_colon_28 (by decide) ?_
        exact ih2 (by omega) (by rw [hV, zfst_go (by omega) (by simp only [decide_eq_true_eq]; omega)])
      ·
        refine zY.iload_n hO dX3_colon_23 rfl ?_
        exact zY.iret rfl ⟨_, rfl, ⟨by rw [hV, zfst_hit (by omega) (decide_eq_true (by omega)), if_neg (by omega)], rfl⟩⟩ hR hO dX3_colon_24
  exact L2 0 (by omega) rfl

set_option maxRecDepth 100000 in
set_option maxHeartbeats 4000000 in
theorem ct_X3_faultAmong {μ : zMem} {D : zBk} (hW : zWF D) (hp : zPad D μ) {lo hi : Int} {most : Nat} (hlo : zr lo) (hhi : zr hi) (hm : most < 100) : Ci kX3_faultAmong 4 150 zSX [zP 18, zI lo, zI hi, zI (most : Int)] μ (fun a μ' => a = zf1 D lo hi most ∧ μ' = μ) := by
  refine Ct.of [some (zP 18), some (zI lo), some (zI hi), some (zI (most : Int)), none] rfl (Nat.le_of_ble_eq_true rfl) (by decide +kernel) (fun Γ ad hO hR => ?_)
  have hn := zN_eq hW
  refine zY.iconst hO dX3_faultAmong_0 ?_
  refine zY.istore4 (zc1_I _) hO dX3_faultAmong_1 ?_
  have L3 : ∀ i : Nat, i ≤ zN D → zfst (zf1p D lo hi most) 0 (zN D) = zfst (zf1p D lo hi most) i (zN D - i) → zY Γ (150, zSX, ad, 0, 0) 3 [some (zP 18), some (zI lo), some (zI hi), some (zI (most : Int)), some (zI (i : Int))] [] μ := by
    refine zdown (zN D) (fun i hi_i ih3 => ?_)
    intro hV
    refine zY.iload hO dX3_faultAmong_3 rfl ?_
    refine zY.aload_n hO dX3_faultAmong_5 rfl ?_
    refine zY.getI zfl_X3_20 (by decide : 18 < 150) rfl rfl hO dX3_faultAmong_6 ?_
    refine zY.as (b := (zN D : Int)) (hp.2.trans hn.1) ?_
    refine zY.icmp_ge (tgt := 44) ⟨by omega, by omega⟩ ⟨by omega, by omega⟩ hO dX3_faultAmong_9 (by decide) (fun c9 => ?_) (fun c9 => ?_)
    ·
      have hiN : i = zN D := by omega
      subst hiN
      refine zY.aload_n hO dX3_faultAmong_44 rfl ?_
      refine zY.getI zfl_X3_20 (by decide : 18 < 150) rfl rfl hO dX3_faultAmong_45 ?_
      refine zY.as (b := (zN D : Int)) (hp.2.trans hn.1) ?_
      refine zY.if_ne (tgt := 55) ⟨by omega, by omega⟩ hO dX3_faultAmong_48 (by decide) (fun c48 => ?_) (fun c48 => ?_)
      ·
        refine zY.bipush hO dX3_faultAmong_55 (by decide) ?_
        exact zY.iret rfl ⟨_, rfl, ⟨by unfold zf1; rw [hV, zfst_end, if_neg (by omega)]; first | rw [if_pos (by omega)] | rw [if_neg (by omega)], rfl⟩⟩ hR hO dX3_faultAmong_57
      ·
        refine zY.iconst hO dX3_faultAmong_51 ?_
        refine zY.goto (tgt := 57) hO dX3_faultAmong_52 (by decide) ?_
        exact zY.iret rfl ⟨_, rfl, ⟨by unfold zf1; rw [hV, zfst_end, if_neg (by omega)]; first | rw [if_pos (by omega)] | rw [if_neg (by omega)], rfl⟩⟩ hR hO dX3_faultAmong_57
    ·
      refine zY.iload hO dX3_faultAmong_12 rfl ?_
      refine zY.iload_n hO dX3_faultAmong_14 rfl ?_
      refine zY.icmp_ge (tgt := 35) ⟨by omega, by omega⟩ ⟨by omega, by omega⟩ hO dX3_faultAmong_15 (by decide) (fun c15 => ?_) (fun c15 => ?_)
      ·
        refine zY.iload hO dX3_faultAmong_35 rfl ?_
        exact zY.iret rfl ⟨_, rfl, ⟨by unfold zf1; rw [hV, zfst_hit (by omega) (decide_eq_true (by omega)), if_pos (by omega)], rfl⟩⟩ hR hO dX3_faultAmong_37
      ·
        refine zY.aload_n hO dX3_faultAmong_18 rfl ?_
        refine zY.getR zfl_X3_14 (by decide : 18 < 150) rfl rfl hO dX3_faultAmong_19 ?_
        refine zY.iload hO dX3_faultAmong_22 rfl ?_
        refine zY.as (b := ((i : Nat) : Int)) (by omega) ?_
        refine zY.callV1iD (ct_atN zrw_19 (j := i) (by omega)) (by decide) zcal_X5_at zml_X3_28 (by decide : 19 < 150) rfl rfl (Nat.le_of_ble_eq_true rfl) rfl ⟨Nat.zero_le _, Nat.zero_le _⟩ hO dX3_faultAmong_24 ?_
        have hd := hW.2.2.2.2.2.2.2.2 i (by omega)
        refine zY.as (b := D 9 i) (hp.1 i (by omega)) ?_
        refine zY.iload_n hO dX3_faultAmong_27 rfl ?_
        refine zY.iload_n hO dX3_faultAmong_28 rfl ?_
        refine zY.callSN3iD (ct_X10_within ⟨by omega, by omega⟩ hlo hhi) (by decide) zcal_X10_within zmn_X3_40 (Nat.le_of_ble_eq_true rfl) rfl ⟨Nat.zero_le _, Nat.zero_le _⟩ hO dX3_faultAmong_29 ?_
        refine zY.if_ne (tgt := 38) zr_b hO dX3_faultAmong_32 (by decide) (fun c32 => ?_) (fun c32 => ?_)
        ·
          replace c32 := zb1.mp c32
          refine zY.iinc4 ((i + 1 : Nat) : Int) (by omega) (zc1_I _) hO dX3_faultAmong_38 ?_
          refine zY.goto (tgt := 3) hO dX3_faultAmong_41 (by decide) ?_
          exact ih3 (by omega) (by rw [hV, zfst_go (by omega) (by unfold zf1p; simp only [decide_eq_true_eq]; omega)])
        ·
          replace c32 := zb0.mp c32
          refine zY.iload hO dX3_faultAmong_35 rfl ?_
          exact zY.iret rfl ⟨_, rfl, ⟨by unfold zf1; rw [hV, zfst_hit (by omega) (decide_eq_true (by omega)), if_pos (by omega)], rfl⟩⟩ hR hO dX3_faultAmong_37
  exact L3 0 (by omega) rfl

set_option maxRecDepth 100000 in
set_option maxHeartbeats 4000000 in
theorem ct_X3_faultInOrders {μ : zMem} {D : zBk} (hW : zWF D) (hp : zPad D μ) {th : Nat} {r : Int} {two : Bool} (hth : th < 64) (hr : (r = 2 ∧ two = true) ∨ (r = 1 ∧ two = false)) : Ci kX3_faultInOrders 4 150 zSX [zP 18, zI (th : Int), zI r] μ (fun a μ' => a = zfo D two (zN D) th (-6) 0 ∧ μ' = μ) := by
  refine Ct.of [some (zP 18), some (zI (th : Int)), some (zI r), none, none, none, none, none] rfl (Nat.le_of_ble_eq_true rfl) (by decide +kernel) (fun Γ ad hO hR => ?_)
  have hn := zN_eq hW
  refine zY.iload_n hO dX3_faultInOrders_0 rfl ?_
  refine zY.istore3 (zc1_I _) hO dX3_faultInOrders_1 ?_
  refine zY.iload_n hO dX3_faultInOrders_2 rfl ?_
  refine zY.iconst hO dX3_faultInOrders_3 ?_
  refine zY.isub hO dX3_faultInOrders_4 ?_
  refine zY.istore4 (zc1_I _) hO dX3_faultInOrders_5 ?_
  refine zY.iconst hO dX3_faultInOrders_7 ?_
  refine zY.istore5 (zc1_I _) hO dX3_faultInOrders_8 ?_
  refine zY.iconst hO dX3_faultInOrders_10 ?_
  refine zY.istore6 (zc1_I _) hO dX3_faultInOrders_11 ?_
  have L13 : ∀ i : Nat, i ≤ zN D → ∀ (left : Nat) (colon rc ir : Int), left < 64 → ((colon = -6 ∧ ir = (i : Int) ∧ ((rc = 1 ∧ two = true) ∨ (rc = 0 ∧ two = false))) ∨ (0 < colon ∧ colon < (i : Int) ∧ ir = (i : Int) - colon - 1 ∧ rc = 0 ∧ two = true)) → zfo D two (zN D - i) left colon i = zfo D two (zN D) th (-6) 0 → zY Γ (150, zSX, ad, 0, 0) 13 [some (zP 18), some (zI (th : Int)), some (zI r), some (zI (left : Int)), some (zI rc), some (zI ir), some (zI (i : Int)), none] [] μ := by
    refine zdown (zN D) (fun i hi_i ih13 => ?_)
    intro left colon rc ir hl64 hc hV
    refine zY.iload hO dX3_faultInOrders_13 rfl ?_
    refine zY.aload_n hO dX3_faultInOrders_15 rfl ?_
    refine zY.getI zfl_X3_20 (by decide : 18 < 150) rfl rfl hO dX3_faultInOrders_16 ?_
    refine zY.as (b := (zN D : Int)) (hp.2.trans hn.1) ?_
    refine zY.icmp_ge (tgt := 104) ⟨by omega, by omega⟩ ⟨by omega, by omega⟩ hO dX3_faultInOrders_19 (by decide) (fun c19 => ?_) (fun c19 => ?_)
    ·
      have hiN : i = zN D := by omega
      subst hiN
      refine zY.iload hO dX3_faultInOrders_104 rfl ?_
      refine zY.if_eq (tgt := 114) ⟨by omega, by omega⟩ hO dX3_faultInOrders_106 (by decide) (fun c106 => ?_) (fun c106 => ?_)
      ·
        refine zY.aload_n hO dX3_faultInOrders_114 rfl ?_
        refine zY.getI zfl_X3_20 (by decide : 18 < 150) rfl rfl hO dX3_faultInOrders_115 ?_
        refine zY.as (b := (zN D : Int)) (hp.2.trans hn.1) ?_
        refine zY.goto (tgt := 123) hO dX3_faultInOrders_118 (by decide) ?_
        exact zY.iret rfl ⟨_, rfl, ⟨by
          rw [← hV, zfo_end]
          rcases hc with ⟨hz1, hz2, ⟨hz3, hz4⟩ | ⟨hz3, hz4⟩⟩ | ⟨hz1, hz2, hz3, hz4, hz5⟩
          · rw [if_pos hz4]; split <;> omega
          · rw [if_neg (by rw [hz4]; decide)]; split <;> omega
          · rw [if_pos hz5]; split <;> omega, rfl⟩⟩ hR hO dX3_faultInOrders_123
      ·
        refine zY.iload hO dX3_faultInOrders_109 rfl ?_
        refine zY.if_le (tgt := 121) ⟨by omega, by omega⟩ hO dX3_faultInOrders_111 (by decide) (fun c111 => ?_) (fun c111 => ?_)
        ·
          refine zY.bipush hO dX3_faultInOrders_121 (by decide) ?_
          exact zY.iret rfl ⟨_, rfl, ⟨by
            rw [← hV, zfo_end]
            rcases hc with ⟨hz1, hz2, ⟨hz3, hz4⟩ | ⟨hz3, hz4⟩⟩ | ⟨hz1, hz2, hz3, hz4, hz5⟩
            · rw [if_pos hz4]; split <;> omega
            · rw [if_neg (by rw [hz4]; decide)]; split <;> omega
            · rw [if_pos hz5]; split <;> omega, rfl⟩⟩ hR hO dX3_faultInOrders_123
        ·
          refine zY.aload_n hO dX3_faultInOrders_114 rfl ?_
          refine zY.getI zfl_X3_20 (by decide : 18 < 150) rfl rfl hO dX3_faultInOrders_115 ?_
          refine zY.as (b := (zN D : Int)) (hp.2.trans hn.1) ?_
          refine zY.goto (tgt := 123) hO dX3_faultInOrders_118 (by decide) ?_
          exact zY.iret rfl ⟨_, rfl, ⟨by
            rw [← hV, zfo_end]
            rcases hc with ⟨hz1, hz2, ⟨hz3, hz4⟩ | ⟨hz3, hz4⟩⟩ | ⟨hz1, hz2, hz3, hz4, hz5⟩
            · rw [if_pos hz4]; split <;> omega
            · rw [if_neg (by rw [hz4]; decide)]; split <;> omega
            · rw [if_pos hz5]; split <;> omega, rfl⟩⟩ hR hO dX3_faultInOrders_123
    ·
      refine zY.aload_n hO dX3_faultInOrders_22 rfl ?_
      refine zY.iload hO dX3_faultInOrders_23 rfl ?_
      refine zY.callV1iD (ct_X3_digitAt (by omega)) (by decide) zcal_X3_digitAt zml_X3_44 (by decide : 18 < 150) rfl rfl (Nat.le_of_ble_eq_true rfl) rfl ⟨Nat.zero_le _, Nat.zero_le _⟩ hO dX3_faultInOrders_25 ?_
      have hd := hW.2.2.2.2.2.2.2.2 i (by omega)
      refine zY.as (b := D 9 i - 48) (by rw [hp.1 i (by omega)]) ?_
      refine zY.istore7 (zc1_I _) hO dX3_faultInOrders_28 ?_
      refine zY.aload_n hO dX3_faultInOrders_30 rfl ?_
      refine zY.getR zfl_X3_14 (by decide : 18 < 150) rfl rfl hO dX3_faultInOrders_31 ?_
      refine zY.iload hO dX3_faultInOrders_34 rfl ?_
      refine zY.as (b := ((i : Nat) : Int)) (by omega) ?_
      refine zY.callV1iD (ct_atN zrw_19 (j := i) (by omega)) (by decide) zcal_X5_at zml_X3_28 (by decide : 19 < 150) rfl rfl (Nat.le_of_ble_eq_true rfl) rfl ⟨Nat.zero_le _, Nat.zero_le _⟩ hO dX3_faultInOrders_36 ?_
      refine zY.as (b := D 9 i) (hp.1 i (by omega)) ?_
      refine zY.bipush hO dX3_faultInOrders_39 (by decide) ?_
      have L63 : ¬ (D 9 i = 58 ∧ two = true ∧ colon < 0 ∧ 0 < i) → zY Γ (150, zSX, ad, 0, 0) 63 [some (zP 18), some (zI (th : Int)), some (zI r), some (zI (left : Int)), some (zI rc), some (zI ir), some (zI (i : Int)), some (zI (D 9 i - 48))] [] μ := by
        intro hH
        refine zY.iload hO dX3_faultInOrders_63 rfl ?_
        refine zY.callSN1iD (ct_X10_isSheet ⟨by omega, by omega⟩) (by decide) zcal_X10_isSheet zmn_X3_47 (Nat.le_of_ble_eq_true rfl) rfl ⟨Nat.zero_le _, Nat.zero_le _⟩ hO dX3_faultInOrders_65 ?_
        refine zY.if_eq (tgt := 95) zr_b hO dX3_faultInOrders_68 (by decide) (fun c68 => ?_) (fun c68 => ?_)
        ·
          replace c68 := zb0.mp c68
          refine zY.iload hO dX3_faultInOrders_95 rfl ?_
          exact zY.iret rfl ⟨_, rfl, ⟨by rw [← hV, zfo_in (i := i) (by omega), if_neg hH, if_neg (fun z => by omega)], rfl⟩⟩ hR hO dX3_faultInOrders_97
        ·
          replace c68 := zb1.mp c68
          obtain ⟨gq, hgq⟩ : ∃ gq : Nat, D 9 i - 48 = (gq : Int) := ⟨(D 9 i - 48).toNat, by omega⟩
          refine zY.iload_n hO dX3_faultInOrders_71 rfl ?_
          refine zY.iload hO dX3_faultInOrders_72 rfl ?_
          refine zY.as (b := (gq : Int)) hgq ?_
          refine zY.callSN2iD (ct_X10_has hl64 (by omega)) (by decide) zcal_X10_has zmn_X3_51 (Nat.le_of_ble_eq_true rfl) rfl ⟨Nat.zero_le _, Nat.zero_le _⟩ hO dX3_faultInOrders_74 ?_
          refine zY.if_eq (tgt := 95) zr_b hO dX3_faultInOrders_77 (by decide) (fun c77 => ?_) (fun c77 => ?_)
          ·
            replace c77 := zb0.mp c77
            refine zY.iload hO dX3_faultInOrders_95 rfl ?_
            exact zY.iret rfl ⟨_, rfl, ⟨by rw [← hV, zfo_in (i := i) (by omega), if_neg hH, if_neg (fun z => by have h9 := z.2.2; rw [hgq, Int.toNat_natCast] at h9; exact c77 h9)], rfl⟩⟩ hR hO dX3_faultInOrders_97
          ·
            replace c77 := zb1.mp c77
            refine zY.iload_n hO dX3_faultInOrders_80 rfl ?_
            refine zY.iconst hO dX3_faultInOrders_81 ?_
            refine zY.iload hO dX3_faultInOrders_82 rfl ?_
            refine zY.as (b := (gq : Int)) hgq ?_
            refine zY.ishl (c := ((2 ^ gq : Nat) : Int)) (zb_shl gq (by omega)) hO dX3_faultInOrders_84 ?_
            refine zY.iconst hO dX3_faultInOrders_85 ?_
            have h2g : 2 ^ gq < 64 := Nat.pow_lt_pow_right (by omega) (by omega : gq < 6)
            refine zY.ixor (c := (-1 - ((2 ^ gq : Nat) : Int))) (zb_not _ h2g) hO dX3_faultInOrders_86 ?_
            refine zY.iand (c := ((left - (left &&& 2 ^ gq) : Nat) : Int)) (zb_andn _ hl64 _ h2g) hO dX3_faultInOrders_87 ?_
            refine zY.istore3 (zc1_I _) hO dX3_faultInOrders_88 ?_
            refine zY.iinc5 (ir + 1) rfl (zc1_I _) hO dX3_faultInOrders_89 ?_
            refine zY.goto (tgt := 98) hO dX3_faultInOrders_92 (by decide) ?_
            refine zY.iinc6 ((i + 1 : Nat) : Int) (by omega) (zc1_I _) hO dX3_faultInOrders_98 ?_
            refine zY.goto (tgt := 13) hO dX3_faultInOrders_101 (by decide) ?_
            refine zY.none7 ?_
            exact ih13 (by omega) (left - (left &&& 2 ^ gq)) colon rc (ir + 1) (by omega) (by
              rcases hc with ⟨hz1, hz2, hz3⟩ | ⟨hz1, hz2, hz3, hz4, hz5⟩
              · exact Or.inl ⟨hz1, by omega, hz3⟩
              · exact Or.inr ⟨hz1, by omega, by omega, hz4, hz5⟩) (by rw [← hV, zfo_in (i := i) (by omega), if_neg hH, if_pos ⟨by omega, by omega, by rw [hgq, Int.toNat_natCast]; exact c77⟩, hgq, Int.toNat_natCast])
      refine zY.icmp_ne (tgt := 63) ⟨by omega, by omega⟩ ⟨by omega, by omega⟩ hO dX3_faultInOrders_41 (by decide) (fun c41 => ?_) (fun c41 => ?_)
      ·
        exact L63 (fun z => by omega)
      ·
        refine zY.iload hO dX3_faultInOrders_44 rfl ?_
        refine zY.if_le (tgt := 63) ⟨by omega, by omega⟩ hO dX3_faultInOrders_46 (by decide) (fun c46 => ?_) (fun c46 => ?_)
        ·
          exact L63 (fun z => by omega)
        ·
          refine zY.iload hO dX3_faultInOrders_49 rfl ?_
          refine zY.if_le (tgt := 63) ⟨by omega, by omega⟩ hO dX3_faultInOrders_51 (by decide) (fun c51 => ?_) (fun c51 => ?_)
          ·
            exact L63 (fun z => by rcases hc with ⟨h1, h2, ⟨h3, h4⟩ | ⟨h3, h4⟩⟩ | ⟨h1, h2, h3, h4, h5⟩; omega; exact absurd (z.2.1.symm.trans h4) (by decide); omega)
          ·
            refine zY.iinc4 (rc - 1) rfl (zc1_I _) hO dX3_faultInOrders_54 ?_
            refine zY.iconst hO dX3_faultInOrders_57 ?_
            refine zY.istore5 (zc1_I _) hO dX3_faultInOrders_58 ?_
            refine zY.goto (tgt := 98) hO dX3_faultInOrders_60 (by decide) ?_
            refine zY.iinc6 ((i + 1 : Nat) : Int) (by omega) (zc1_I _) hO dX3_faultInOrders_98 ?_
            refine zY.goto (tgt := 13) hO dX3_faultInOrders_101 (by decide) ?_
            refine zY.none7 ?_
            exact ih13 (by omega) left (i : Int) (rc - 1) 0 hl64 (by
              rcases hc with ⟨hz1, hz2, ⟨hz3, hz4⟩ | ⟨hz3, hz4⟩⟩ | ⟨hz1, hz2, hz3, hz4, hz5⟩
              · exact Or.inr ⟨by omega, by omega, by omega, by omega, hz4⟩
              · omega
              · omega) (by
              rw [← hV, zfo_in (i := i) (by omega), if_pos ⟨by omega, by
                rcases hc with ⟨hz1, hz2, ⟨hz3, hz4⟩ | ⟨hz3, hz4⟩⟩ | ⟨hz1, hz2, hz3, hz4, hz5⟩
                · exact hz4
                · omega
                · omega, by omega, by omega⟩])
  exact L13 0 (by omega) th (-6) (r - 1) 0 hth (Or.inl ⟨rfl, rfl, by rcases hr with ⟨h1, h2⟩ | ⟨h1, h2⟩; exact Or.inl ⟨by omega, h2⟩; exact Or.inr ⟨by omega, h2⟩⟩) rfl

set_option maxRecDepth 100000 in
set_option maxHeartbeats 4000000 in
theorem ct_X3_faultAs {μ : zMem} {D : zBk} (hW : zWF D) (hp : zPad D μ) {th : Nat} {how : Int} (hth : th = zthD D) (h0 : 0 ≤ how) (h3 : how ≤ 3) : Ci kX3_faultAs 5 150 zSX [zP 18, zI how, zI (th : Int)] μ (fun a μ' => a = zflt D how ∧ μ' = μ) := by
  refine Ct.of [some (zP 18), some (zI how), some (zI (th : Int))] rfl (Nat.le_of_ble_eq_true rfl) (by decide +kernel) (fun Γ ad hO hR => ?_)
  refine zY.iload_n hO dX3_faultAs_0 rfl ?_
  refine zY.if_ne (tgt := 14) ⟨by omega, by omega⟩ hO dX3_faultAs_1 (by decide) (fun c1 => ?_) (fun c1 => ?_)
  ·
    refine zY.iload_n hO dX3_faultAs_14 rfl ?_
    refine zY.iconst hO dX3_faultAs_15 ?_
    refine zY.icmp_ne (tgt := 30) ⟨by omega, by omega⟩ ⟨by omega, by omega⟩ hO dX3_faultAs_16 (by decide) (fun c16 => ?_) (fun c16 => ?_)
    ·
      refine zY.aload_n hO dX3_faultAs_30 rfl ?_
      refine zY.iload_n hO dX3_faultAs_31 rfl ?_
      refine zY.iload_n hO dX3_faultAs_32 rfl ?_
      refine zY.iconst hO dX3_faultAs_33 ?_
      refine zY.icmp_ne (tgt := 41) ⟨by omega, by omega⟩ ⟨by omega, by omega⟩ hO dX3_faultAs_34 (by decide) (fun c34 => ?_) (fun c34 => ?_)
      ·
        refine zY.iconst hO dX3_faultAs_41 ?_
        have hth64 : th < 64 := by rw [hth]; exact zthD_64 D
        refine zY.callV2iD (ct_X3_faultInOrders (two := false) hW hp hth64 (Or.inr ⟨rfl, rfl⟩)) (by decide) zcal_X3_faultInOrders zml_X3_36 (by decide : 18 < 150) rfl rfl (Nat.le_of_ble_eq_true rfl) rfl ⟨Nat.zero_le _, Nat.zero_le _⟩ hO dX3_faultAs_42 ?_
        exact zY.iret rfl ⟨_, rfl, ⟨by rw [hth]; unfold zflt; rw [if_neg (by omega), if_neg (by omega), if_pos (by omega)], rfl⟩⟩ hR hO dX3_faultAs_45
      ·
        refine zY.iconst hO dX3_faultAs_37 ?_
        refine zY.goto (tgt := 42) hO dX3_faultAs_38 (by decide) ?_
        have hth64 : th < 64 := by rw [hth]; exact zthD_64 D
        refine zY.callV2iD (ct_X3_faultInOrders (two := true) hW hp hth64 (Or.inl ⟨rfl, rfl⟩)) (by decide) zcal_X3_faultInOrders zml_X3_36 (by decide : 18 < 150) rfl rfl (Nat.le_of_ble_eq_true rfl) rfl ⟨Nat.zero_le _, Nat.zero_le _⟩ hO dX3_faultAs_42 ?_
        exact zY.iret rfl ⟨_, rfl, ⟨by rw [hth]; unfold zflt; rw [if_neg (by omega), if_neg (by omega), if_neg (by omega), if_pos (by omega)], rfl⟩⟩ hR hO dX3_faultAs_45
    ·
      refine zY.aload_n hO dX3_faultAs_19 rfl ?_
      refine zY.bipush hO dX3_faultAs_20 (by decide) ?_
      refine zY.bipush hO dX3_faultAs_22 (by decide) ?_
      refine zY.bipush hO dX3_faultAs_24 (by decide) ?_
      refine zY.callV3iD (ct_X3_faultAmong (most := 6) hW hp ⟨by omega, by omega⟩ ⟨by omega, by omega⟩ (by omega)) (by decide) zcal_X3_faultAmong zml_X3_32 (by decide : 18 < 150) rfl rfl (Nat.le_of_ble_eq_true rfl) rfl ⟨Nat.zero_le _, Nat.zero_le _⟩ hO dX3_faultAs_26 ?_
      exact zY.iret rfl ⟨_, rfl, ⟨by unfold zflt; rw [if_neg (by omega), if_pos (by omega)], rfl⟩⟩ hR hO dX3_faultAs_29
  ·
    refine zY.aload_n hO dX3_faultAs_4 rfl ?_
    refine zY.bipush hO dX3_faultAs_5 (by decide) ?_
    refine zY.bipush hO dX3_faultAs_7 (by decide) ?_
    refine zY.iconst hO dX3_faultAs_9 ?_
    refine zY.callV3iD (ct_X3_faultAmong (most := 5) hW hp ⟨by omega, by omega⟩ ⟨by omega, by omega⟩ (by omega)) (by decide) zcal_X3_faultAmong zml_X3_32 (by decide : 18 < 150) rfl rfl (Nat.le_of_ble_eq_true rfl) rfl ⟨Nat.zero_le _, Nat.zero_le _⟩ hO dX3_faultAs_10 ?_
    exact zY.iret rfl ⟨_, rfl, ⟨by unfold zflt; rw [if_pos (by omega)], rfl⟩⟩ hR hO dX3_faultAs_13

theorem zth_congr {f g : Nat → Int} (h : ∀ s, s < 6 → f s = g s) : zth f 6 = zth g 6 := by
  have key : ∀ k, k ≤ 6 → zth f k = zth g k := by
    intro k
    induction k with
    | zero => intro _; rfl
    | succ k ih => intro hk; simp only [zth]; rw [h k (by omega), ih (by omega)]
  exact key 6 (Nat.le_refl 6)
set_option maxRecDepth 100000 in
set_option maxHeartbeats 4000000 in
theorem ct_X10_faultAs {μ : zMem} {D : zBk} {K0 K1 : Option zBk} {how : Int} (hX : zRX D K0 K1 μ) (h0 : 0 ≤ how) (h3 : how ≤ 3) : Ci kX10_faultAs 6 150 zSX [zP 0, zI how] μ (fun a μ' => a = zflt D how ∧ μ' = μ) := by
  refine Ct.of [some (zP 0), some (zI how)] rfl (Nat.le_of_ble_eq_true rfl) (by decide +kernel) (fun Γ ad hO hR => ?_)
  refine zY.aload_n hO dX10_faultAs_0 rfl ?_
  refine zY.getR zfl_X10_19 (by decide : 0 < 150) rfl rfl hO dX10_faultAs_1 ?_
  refine zY.iload_n hO dX10_faultAs_4 rfl ?_
  refine zY.aload_n hO dX10_faultAs_5 rfl ?_
  refine zY.getR zfl_X10_10 (by decide : 0 < 150) rfl rfl hO dX10_faultAs_6 ?_
  have hth : zth (μ 15) 6 = zthD D := zth_congr (fun s hs => (hX.2.1.2.1 s hs).1)
  refine zY.callV0iD (ct_X6_there (fun s hs => by have h1 := (hX.2.1.2.1 s hs).1; have h2 := hX.1.2.1 s hs; exact ⟨by rw [show (μ 15 s) = D 4 s from h1]; omega, by rw [show (μ 15 s) = D 4 s from h1]; omega⟩)) (by decide) zcal_X6_there zml_X10_218 (by decide : 1 < 150) rfl rfl (Nat.le_of_ble_eq_true rfl) rfl ⟨Nat.zero_le _, Nat.zero_le _⟩ hO dX10_faultAs_9 ?_
  refine zY.callV2iD (ct_X3_faultAs hX.1 hX.2.2.1 hth h0 h3) (by decide) zcal_X3_faultAs zml_X10_230 (by decide : 18 < 150) rfl rfl (Nat.le_of_ble_eq_true rfl) rfl ⟨Nat.zero_le _, Nat.zero_le _⟩ hO dX10_faultAs_12 ?_
  exact zY.iret rfl ⟨_, rfl, ⟨rfl, rfl⟩⟩ hR hO dX10_faultAs_15
