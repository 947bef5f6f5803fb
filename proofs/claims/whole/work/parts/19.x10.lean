/-! LeadPress: the calls of promises 2 to 11, 20, 23 to 27 -/

theorem zflt_b {D : zBk} (hW : zWF D) (how : Nat) : zr (zflt D (how : Int)) := by
  have hn := zN_eq hW
  have h1 : ∀ lo hi most, -6 ≤ zf1 D lo hi most ∧ zf1 D lo hi most ≤ 14 := by
    intro lo hi most
    unfold zf1
    have := zfst_b (zf1p D lo hi most) (zN D) 0
    split
    · omega
    · split <;> omega
  have h2 : ∀ two k left colon i, i + k ≤ zN D → -6 ≤ zfo D two k left colon i ∧ zfo D two k left colon i ≤ 14 := by
    intro two k
    induction k with
    | zero => intro left colon i _; simp only [zfo]; (repeat' split) <;> omega
    | succ k ih =>
      intro left colon i hik
      simp only [zfo]
      split
      · exact ih _ _ _ (by omega)
      · split
        · exact ih _ _ _ (by omega)
        · omega
  unfold zflt
  have e1 := h1 97 102 5
  have e2 := h1 48 57 6
  have e3 := h2 false (zN D) (zthD D) (-6) 0 (by omega)
  have e4 := h2 true (zN D) (zthD D) (-6) 0 (by omega)
  (repeat' split) <;> exact ⟨by omega, by omega⟩
/-- the book behind 'restore': all but the pad from the image -/
def zRes (D K : zBk) : zBk := fun t k => if t ≤ 8 then K t k else D t k
theorem zWF_res {D K : zBk} (hD : zWF D) (hK : zWF K) : zWF (zRes D K) := by
  refine ⟨fun w hw => ?_, fun s hs => ?_, ?_⟩
  · have h := hK.1 w hw; simp [zRes]; exact h
  · have h := hK.2.1 s hs; simp [zRes]; exact h
  · simp [zRes]; exact ⟨hK.2.2.1, hK.2.2.2.1, hK.2.2.2.2.1, hK.2.2.2.2.2.1, hD.2.2.2.2.2.2⟩
theorem zRX_res {D K : zBk} {K0 K1 : Option zBk} {μ μ' : zMem} (hX : zRX D K0 K1 μ) (hk : K0 = some K ∨ K1 = some K) (hS : zShp 1 K μ') (hm : zSame 1 17 μ μ') : zRX (zRes D K) K0 K1 μ' := by
  have hKW : zWF K := by
    rcases hk with e | e
    · have := hX.2.2.2.1; rw [e] at this; exact this.2.2
    · have := hX.2.2.2.2; rw [e] at this; exact this.2.2
  refine ⟨zWF_res hX.1 hKW, ⟨fun w hw => ?_, fun s hs => ?_, ?_, ?_⟩, ⟨fun j hj => ?_, ?_⟩, hX.2.2.2.1.row (fun q h1 h2 => hm q (Or.inr (by omega))), hX.2.2.2.2.row (fun q h1 h2 => hm q (Or.inr (by omega)))⟩
  · have h := hS.1 w hw; simp [zRes]; exact h
  · have h := hS.2.1 s hs; simp [zRes]; exact h
  · exact hS.2.2.1
  · exact hS.2.2.2
  · rw [hm 20 (Or.inr (by decide))]; simp [zRes]; exact hX.2.2.1.1 j hj
  · rw [hm 18 (Or.inr (by decide))]; simp [zRes]; exact hX.2.2.1.2

set_option maxRecDepth 100000 in
set_option maxHeartbeats 4000000 in
theorem ct_X10_say {μ : zMem} {D : zBk} {K0 K1 : Option zBk} (hX : zRX D K0 K1 μ) {v : Int} (hv : zr v) : Ci kX10_say 4 150 zSX [zP 0, zI v] μ (fun a μ' => a = zA_say D v ∧ zRX (zU_say D v) K0 K1 μ' ∧ zSame 0 56 μ μ') := by
  refine Ct.of [some (zP 0), some (zI v)] rfl (Nat.le_of_ble_eq_true rfl) (by decide +kernel) (fun Γ ad hO hR => ?_)
  have hn := zN_eq hX.1
  refine zY.iload_n hO dX10_say_0 rfl ?_
  refine zY.bipush hO dX10_say_1 (by decide) ?_
  refine zY.bipush hO dX10_say_3 (by decide) ?_
  refine zY.callS3iD (ct_X10_within hv ⟨by omega, by omega⟩ ⟨by omega, by omega⟩) (by decide) zcal_X10_within zml_X10_70 (Nat.le_of_ble_eq_true rfl) rfl ⟨Nat.zero_le _, Nat.zero_le _⟩ hO dX10_say_5 ?_
  refine zY.if_ne (tgt := 14) zr_b hO dX10_say_8 (by decide) (fun c8 => ?_) (fun c8 => ?_)
  ·
    replace c8 := zb1.mp c8
    refine zY.aload_n hO dX10_say_14 rfl ?_
    refine zY.getR zfl_X10_19 (by decide : 0 < 150) rfl rfl hO dX10_say_15 ?_
    refine zY.callV0iD (ct_X3_count) (by decide) zcal_X3_count zml_X10_74 (by decide : 18 < 150) rfl rfl (Nat.le_of_ble_eq_true rfl) rfl ⟨Nat.zero_le _, Nat.zero_le _⟩ hO dX10_say_18 ?_
    refine zY.as (b := (zN D : Int)) (hX.2.2.1.2.trans hn.1) ?_
    refine zY.bipush hO dX10_say_21 (by decide) ?_
    refine zY.icmp_ge (tgt := 37) ⟨by omega, by omega⟩ ⟨by omega, by omega⟩ hO dX10_say_23 (by decide) (fun c23 => ?_) (fun c23 => ?_)
    ·
      refine zY.bipush hO dX10_say_37 (by decide) ?_
      exact zY.iret rfl ⟨_, rfl, ⟨by unfold zA_say; rw [if_pos c8, if_neg (by omega)], by unfold zU_say; rw [if_neg (fun z => by omega)]; exact hX, zSame.rfl'⟩⟩ hR hO dX10_say_39
    ·
      refine zY.aload_n hO dX10_say_26 rfl ?_
      refine zY.getR zfl_X10_19 (by decide : 0 < 150) rfl rfl hO dX10_say_27 ?_
      refine zY.iload_n hO dX10_say_30 rfl ?_
      refine zY.callV1iD (ct_X3_add (N := zN D) (hX.2.2.1.2.trans hn.1) (by omega)) (by decide) zcal_X3_add zml_X10_78 (by decide : 18 < 150) rfl rfl (Nat.le_of_ble_eq_true rfl) rfl ⟨Nat.zero_le _, Nat.zero_le _⟩ hO dX10_say_31 ?_
      refine zY.goto (tgt := 39) hO dX10_say_34 (by decide) ?_
      exact zY.iret rfl ⟨_, rfl, ⟨by unfold zA_say; rw [if_pos c8, if_pos (by omega), hn.1], by unfold zU_say; rw [if_pos ⟨c8, by omega⟩]; exact zRX_say hX c8 (by omega), (zSame.rfl'.wr (by decide) (by decide)).wr (by decide) (by decide)⟩⟩ hR hO dX10_say_39
  ·
    replace c8 := zb0.mp c8
    refine zY.bipush hO dX10_say_11 (by decide) ?_
    exact zY.iret rfl ⟨_, rfl, ⟨by unfold zA_say; rw [if_neg c8], by unfold zU_say; rw [if_neg (fun z => c8 z.1)]; exact hX, zSame.rfl'⟩⟩ hR hO dX10_say_13

set_option maxRecDepth 100000 in
set_option maxHeartbeats 4000000 in
theorem ct_X10_wipe {μ : zMem} {D : zBk} {K0 K1 : Option zBk} (hX : zRX D K0 K1 μ)  : Ci kX10_wipe 2 150 zSX [zP 0] μ (fun a μ' => a = D 10 0 ∧ zRX (zU_wipe D) K0 K1 μ' ∧ zSame 0 56 μ μ') := by
  refine Ct.of [some (zP 0)] rfl (Nat.le_of_ble_eq_true rfl) (by decide +kernel) (fun Γ ad hO hR => ?_)
  refine zY.aload_n hO dX10_wipe_0 rfl ?_
  refine zY.getR zfl_X10_19 (by decide : 0 < 150) rfl rfl hO dX10_wipe_1 ?_
  refine zY.callV0iD (ct_X3_empty) (by decide) zcal_X3_empty zml_X10_82 (by decide : 18 < 150) rfl rfl (Nat.le_of_ble_eq_true rfl) rfl ⟨Nat.zero_le _, Nat.zero_le _⟩ hO dX10_wipe_4 ?_
  exact zY.iret rfl ⟨_, rfl, ⟨hX.2.2.1.2, zRX_wipe hX, zSame.rfl'.wr (by decide) (by decide)⟩⟩ hR hO dX10_wipe_7

set_option maxRecDepth 100000 in
set_option maxHeartbeats 4000000 in
theorem ct_X10_fault {μ : zMem} {D : zBk} {K0 K1 : Option zBk} (hX : zRX D K0 K1 μ) {v : Int} (hv : zr v) : Ci kX10_fault 7 150 zSX [zP 0, zI v] μ (fun a μ' => a = zflt D v ∧ μ' = μ) := by
  refine Ct.of [some (zP 0), some (zI v)] rfl (Nat.le_of_ble_eq_true rfl) (by decide +kernel) (fun Γ ad hO hR => ?_)
  refine zY.iload_n hO dX10_fault_0 rfl ?_
  refine zY.iconst hO dX10_fault_1 ?_
  refine zY.iconst hO dX10_fault_2 ?_
  refine zY.callS3iD (ct_X10_within hv ⟨by omega, by omega⟩ ⟨by omega, by omega⟩) (by decide) zcal_X10_within zml_X10_70 (Nat.le_of_ble_eq_true rfl) rfl ⟨Nat.zero_le _, Nat.zero_le _⟩ hO dX10_fault_3 ?_
  refine zY.if_eq (tgt := 17) zr_b hO dX10_fault_6 (by decide) (fun c6 => ?_) (fun c6 => ?_)
  ·
    replace c6 := zb0.mp c6
    refine zY.bipush hO dX10_fault_17 (by decide) ?_
    exact zY.iret rfl ⟨_, rfl, ⟨by unfold zflt; rw [if_neg (by omega), if_neg (by omega), if_neg (by omega), if_neg (by omega)], rfl⟩⟩ hR hO dX10_fault_19
  ·
    replace c6 := zb1.mp c6
    refine zY.aload_n hO dX10_fault_9 rfl ?_
    refine zY.iload_n hO dX10_fault_10 rfl ?_
    refine zY.callV1iD (ct_X10_faultAs hX c6.1 c6.2) (by decide) zcal_X10_faultAs zml_X10_85 (by decide : 0 < 150) rfl rfl (Nat.le_of_ble_eq_true rfl) rfl ⟨Nat.zero_le _, Nat.zero_le _⟩ hO dX10_fault_11 ?_
    refine zY.goto (tgt := 19) hO dX10_fault_14 (by decide) ?_
    exact zY.iret rfl ⟨_, rfl, ⟨rfl, rfl⟩⟩ hR hO dX10_fault_19

set_option maxRecDepth 100000 in
set_option maxHeartbeats 4000000 in
theorem ct_X10_word {μ : zMem} {D : zBk} {K0 K1 : Option zBk} (hX : zRX D K0 K1 μ) {v : Int} (hv : zr v) : Ci kX10_word 8 150 zSX [zP 0, zI v] μ (fun a μ' => a = zA_word D v ∧ zRX (zU_word D v) K0 K1 μ' ∧ zSame 0 56 μ μ') := by
  refine Ct.of [some (zP 0), some (zI v)] rfl (Nat.le_of_ble_eq_true rfl) (by decide +kernel) (fun Γ ad hO hR => ?_)
  refine zY.iload_n hO dX10_word_0 rfl ?_
  refine zY.callS1iD (ct_X10_isWord hv) (by decide) zcal_X10_isWord zml_X10_88 (Nat.le_of_ble_eq_true rfl) rfl ⟨Nat.zero_le _, Nat.zero_le _⟩ hO dX10_word_1 ?_
  refine zY.if_ne (tgt := 9) zr_b hO dX10_word_4 (by decide) (fun c4 => ?_) (fun c4 => ?_)
  ·
    replace c4 := zb1.mp c4
    obtain ⟨vq, hvq⟩ : ∃ vq : Nat, v = (vq : Int) := ⟨v.toNat, by omega⟩
    refine zY.aload_n hO dX10_word_9 rfl ?_
    refine zY.iconst hO dX10_word_10 ?_
    refine zY.callV1iD (ct_X10_faultAs hX (by decide) (by decide)) (by decide) zcal_X10_faultAs zml_X10_85 (by decide : 0 < 150) rfl rfl (Nat.le_of_ble_eq_true rfl) rfl ⟨Nat.zero_le _, Nat.zero_le _⟩ hO dX10_word_11 ?_
    refine zY.bipush hO dX10_word_14 (by decide) ?_
    refine zY.icmp_eq (tgt := 22) (zflt_b hX.1 0) ⟨by omega, by omega⟩ hO dX10_word_16 (by decide) (fun c16 => ?_) (fun c16 => ?_)
    ·
      refine zY.aload_n hO dX10_word_22 rfl ?_
      refine zY.getR zfl_X10_10 (by decide : 0 < 150) rfl rfl hO dX10_word_23 ?_
      refine zY.iload_n hO dX10_word_26 rfl ?_
      refine zY.aload_n hO dX10_word_27 rfl ?_
      refine zY.getR zfl_X10_19 (by decide : 0 < 150) rfl rfl hO dX10_word_28 ?_
      refine zY.as2 (b := (vq : Int)) hvq ?_
      refine zY.callV2vD (ct_X6_spell hX.1 hX.2.2.1 (by omega)) (by decide) zcal_X6_spell zml_X10_92 (by decide : 1 < 150) rfl rfl (Nat.le_of_ble_eq_true rfl) rfl ⟨Nat.zero_le _, Nat.zero_le _⟩ hO dX10_word_31 ?_
      refine zY.aload_n hO dX10_word_34 rfl ?_
      refine zY.getR zfl_X10_19 (by decide : 0 < 150) rfl rfl hO dX10_word_35 ?_
      refine zY.callV0iD (ct_X3_empty) (by decide) zcal_X3_empty zml_X10_82 (by decide : 18 < 150) rfl rfl (Nat.le_of_ble_eq_true rfl) rfl ⟨Nat.zero_le _, Nat.zero_le _⟩ hO dX10_word_38 ?_
      exact zY.iret rfl ⟨_, rfl, ⟨by unfold zA_word; rw [if_pos c4, if_pos c16]; simp [zrow]; exact hX.2.2.1.2, by rw [hvq]; exact zRX_word hX (by omega) c16, ((zSame.rfl'.row (by decide) (by decide)).row (by decide) (by decide)).wr (by decide) (by decide)⟩⟩ hR hO dX10_word_41
    ·
      refine zY.bipush hO dX10_word_19 (by decide) ?_
      exact zY.iret rfl ⟨_, rfl, ⟨by unfold zA_word; rw [if_pos c4, if_neg c16], by unfold zU_word; rw [if_neg (fun z => c16 z.2)]; exact hX, zSame.rfl'⟩⟩ hR hO dX10_word_21
  ·
    replace c4 := zb0.mp c4
    refine zY.iconst hO dX10_word_7 ?_
    exact zY.iret rfl ⟨_, rfl, ⟨by unfold zA_word; rw [if_neg c4], by unfold zU_word; rw [if_neg (fun z => c4 z.1)]; exact hX, zSame.rfl'⟩⟩ hR hO dX10_word_8

set_option maxRecDepth 100000 in
set_option maxHeartbeats 4000000 in
theorem ct_X10_sheet {μ : zMem} {D : zBk} {K0 K1 : Option zBk} (hX : zRX D K0 K1 μ) {v : Int} (hv : zr v) : Ci kX10_sheet 8 150 zSX [zP 0, zI v] μ (fun a μ' => a = zA_sheet D v ∧ zRX (zU_sheet D v) K0 K1 μ' ∧ zSame 0 56 μ μ') := by
  refine Ct.of [some (zP 0), some (zI v)] rfl (Nat.le_of_ble_eq_true rfl) (by decide +kernel) (fun Γ ad hO hR => ?_)
  refine zY.iload_n hO dX10_sheet_0 rfl ?_
  refine zY.callS1iD (ct_X10_isSheet hv) (by decide) zcal_X10_isSheet zml_X10_96 (Nat.le_of_ble_eq_true rfl) rfl ⟨Nat.zero_le _, Nat.zero_le _⟩ hO dX10_sheet_1 ?_
  refine zY.if_ne (tgt := 9) zr_b hO dX10_sheet_4 (by decide) (fun c4 => ?_) (fun c4 => ?_)
  ·
    replace c4 := zb1.mp c4
    obtain ⟨vq, hvq⟩ : ∃ vq : Nat, v = (vq : Int) := ⟨v.toNat, by omega⟩
    refine zY.aload_n hO dX10_sheet_9 rfl ?_
    refine zY.iconst hO dX10_sheet_10 ?_
    refine zY.callV1iD (ct_X10_faultAs hX (by decide) (by decide)) (by decide) zcal_X10_faultAs zml_X10_85 (by decide : 0 < 150) rfl rfl (Nat.le_of_ble_eq_true rfl) rfl ⟨Nat.zero_le _, Nat.zero_le _⟩ hO dX10_sheet_11 ?_
    refine zY.bipush hO dX10_sheet_14 (by decide) ?_
    refine zY.icmp_eq (tgt := 22) (zflt_b hX.1 1) ⟨by omega, by omega⟩ hO dX10_sheet_16 (by decide) (fun c16 => ?_) (fun c16 => ?_)
    ·
      refine zY.aload_n hO dX10_sheet_22 rfl ?_
      refine zY.getR zfl_X10_10 (by decide : 0 < 150) rfl rfl hO dX10_sheet_23 ?_
      refine zY.iload_n hO dX10_sheet_26 rfl ?_
      refine zY.aload_n hO dX10_sheet_27 rfl ?_
      refine zY.getR zfl_X10_19 (by decide : 0 < 150) rfl rfl hO dX10_sheet_28 ?_
      refine zY.as2 (b := (vq : Int)) hvq ?_
      refine zY.callV2vD (ct_X6_compose hX.1 hX.2.2.1 (by omega)) (by decide) zcal_X6_compose zml_X10_99 (by decide : 1 < 150) rfl rfl (Nat.le_of_ble_eq_true rfl) rfl ⟨Nat.zero_le _, Nat.zero_le _⟩ hO dX10_sheet_31 ?_
      refine zY.aload_n hO dX10_sheet_34 rfl ?_
      refine zY.getR zfl_X10_19 (by decide : 0 < 150) rfl rfl hO dX10_sheet_35 ?_
      refine zY.callV0iD (ct_X3_empty) (by decide) zcal_X3_empty zml_X10_82 (by decide : 18 < 150) rfl rfl (Nat.le_of_ble_eq_true rfl) rfl ⟨Nat.zero_le _, Nat.zero_le _⟩ hO dX10_sheet_38 ?_
      exact zY.iret rfl ⟨_, rfl, ⟨by unfold zA_sheet; rw [if_pos c4, if_pos c16]; simp [zrow]; exact hX.2.2.1.2, by rw [hvq]; exact zRX_sheet hX (by omega) c16, ((zSame.rfl'.row (by decide) (by decide)).row (by decide) (by decide)).wr (by decide) (by decide)⟩⟩ hR hO dX10_sheet_41
    ·
      refine zY.bipush hO dX10_sheet_19 (by decide) ?_
      exact zY.iret rfl ⟨_, rfl, ⟨by unfold zA_sheet; rw [if_pos c4, if_neg c16], by unfold zU_sheet; rw [if_neg (fun z => c16 z.2)]; exact hX, zSame.rfl'⟩⟩ hR hO dX10_sheet_21
  ·
    replace c4 := zb0.mp c4
    refine zY.iconst hO dX10_sheet_7 ?_
    exact zY.iret rfl ⟨_, rfl, ⟨by unfold zA_sheet; rw [if_neg c4], by unfold zU_sheet; rw [if_neg (fun z => c4 z.1)]; exact hX, zSame.rfl'⟩⟩ hR hO dX10_sheet_8

set_option maxRecDepth 100000 in
set_option maxHeartbeats 4000000 in
theorem ct_X10_take {μ : zMem} {D : zBk} {K0 K1 : Option zBk} (hX : zRX D K0 K1 μ) {v : Int} (hv : zr v) : Ci kX10_take 4 150 zSX [zP 0, zI v] μ (fun a μ' => a = zA_take D v ∧ zRX (zU_take D v) K0 K1 μ' ∧ zSame 0 56 μ μ') := by
  refine Ct.of [some (zP 0), some (zI v)] rfl (Nat.le_of_ble_eq_true rfl) (by decide +kernel) (fun Γ ad hO hR => ?_)
  refine zY.iload_n hO dX10_take_0 rfl ?_
  refine zY.callS1iD (ct_X10_isSheet hv) (by decide) zcal_X10_isSheet zml_X10_96 (Nat.le_of_ble_eq_true rfl) rfl ⟨Nat.zero_le _, Nat.zero_le _⟩ hO dX10_take_1 ?_
  refine zY.if_eq (tgt := 22) zr_b hO dX10_take_4 (by decide) (fun c4 => ?_) (fun c4 => ?_)
  ·
    replace c4 := zb0.mp c4
    refine zY.iconst hO dX10_take_22 ?_
    exact zY.iret rfl ⟨_, rfl, ⟨by unfold zA_take; rw [if_neg c4], by unfold zU_take; rw [if_neg c4]; exact hX, zSame.rfl'⟩⟩ hR hO dX10_take_23
  ·
    replace c4 := zb1.mp c4
    obtain ⟨vq, hvq⟩ : ∃ vq : Nat, v = (vq : Int) := ⟨v.toNat, by omega⟩
    refine zY.aload_n hO dX10_take_7 rfl ?_
    refine zY.getR zfl_X10_10 (by decide : 0 < 150) rfl rfl hO dX10_take_8 ?_
    refine zY.getR zfl_X10_102 (by decide : 1 < 150) rfl rfl hO dX10_take_11 ?_
    refine zY.iload_n hO dX10_take_14 rfl ?_
    refine zY.iconst hO dX10_take_15 ?_
    refine zY.as2 (b := (vq : Int)) hvq ?_
    refine zY.callV2iD (ct_X5_swap zrw_14 (by omega)) (by decide) zcal_X5_swap zml_X10_106 (by decide : 14 < 150) rfl rfl (Nat.le_of_ble_eq_true rfl) rfl ⟨Nat.zero_le _, Nat.zero_le _⟩ hO dX10_take_16 ?_
    refine zY.goto (tgt := 23) hO dX10_take_19 (by decide) ?_
    exact zY.iret rfl ⟨_, rfl, ⟨by unfold zA_take; rw [if_pos c4, hvq, Int.toNat_natCast]; exact (hX.2.1.2.1 vq (by omega)).1, by unfold zU_take; rw [if_pos c4, hvq, Int.toNat_natCast]; exact zRX_set hX (zWF_set4 hX.1) (by omega), zSame.rfl'.wr (by decide) (by decide)⟩⟩ hR hO dX10_take_23

set_option maxRecDepth 100000 in
set_option maxHeartbeats 4000000 in
theorem ct_X10_stand {μ : zMem} {D : zBk} {K0 K1 : Option zBk} (hX : zRX D K0 K1 μ) {v o : Int} (hv : zr v) (ho : zr o) : Ci kX10_stand 4 150 zSX [zP 0, zI v, zI o] μ (fun a μ' => a = zA_stand D v o ∧ zRX (zU_stand D v o) K0 K1 μ' ∧ zSame 0 56 μ μ') := by
  refine Ct.of [some (zP 0), some (zI v), some (zI o)] rfl (Nat.le_of_ble_eq_true rfl) (by decide +kernel) (fun Γ ad hO hR => ?_)
  refine zY.iload_n hO dX10_stand_0 rfl ?_
  refine zY.callS1iD (ct_X10_isWord hv) (by decide) zcal_X10_isWord zml_X10_88 (Nat.le_of_ble_eq_true rfl) rfl ⟨Nat.zero_le _, Nat.zero_le _⟩ hO dX10_stand_1 ?_
  refine zY.if_ne (tgt := 9) zr_b hO dX10_stand_4 (by decide) (fun c4 => ?_) (fun c4 => ?_)
  ·
    replace c4 := zb1.mp c4
    obtain ⟨vq, hvq⟩ : ∃ vq : Nat, v = (vq : Int) := ⟨v.toNat, by omega⟩
    refine zY.iload_n hO dX10_stand_9 rfl ?_
    refine zY.iconst hO dX10_stand_10 ?_
    refine zY.bipush hO dX10_stand_11 (by decide) ?_
    refine zY.callS3iD (ct_X10_within ho ⟨by omega, by omega⟩ ⟨by omega, by omega⟩) (by decide) zcal_X10_within zml_X10_70 (Nat.le_of_ble_eq_true rfl) rfl ⟨Nat.zero_le _, Nat.zero_le _⟩ hO dX10_stand_13 ?_
    refine zY.if_eq (tgt := 24) zr_b hO dX10_stand_16 (by decide) (fun c16 => ?_) (fun c16 => ?_)
    ·
      replace c16 := zb0.mp c16
      refine zY.bipush hO dX10_stand_24 (by decide) ?_
      exact zY.iret rfl ⟨_, rfl, ⟨by unfold zA_stand; rw [if_pos c4, if_neg (fun z => by omega)], by unfold zU_stand; rw [if_neg (fun z => by omega)]; exact hX, zSame.rfl'⟩⟩ hR hO dX10_stand_26
    ·
      replace c16 := zb1.mp c16
      refine zY.iload_n hO dX10_stand_19 rfl ?_
      refine zY.iload_n hO dX10_stand_20 rfl ?_
      refine zY.icmp_ne (tgt := 27) ho hv hO dX10_stand_21 (by decide) (fun c21 => ?_) (fun c21 => ?_)
      ·
        refine zY.aload_n hO dX10_stand_27 rfl ?_
        refine zY.getR zfl_X10_10 (by decide : 0 < 150) rfl rfl hO dX10_stand_28 ?_
        refine zY.getR zfl_X10_112 (by decide : 1 < 150) rfl rfl hO dX10_stand_31 ?_
        refine zY.iload_n hO dX10_stand_34 rfl ?_
        refine zY.iload_n hO dX10_stand_35 rfl ?_
        refine zY.if_ge (tgt := 44) ho hO dX10_stand_36 (by decide) (fun c36 => ?_) (fun c36 => ?_)
        ·
          refine zY.iload_n hO dX10_stand_44 rfl ?_
          refine zY.as2 (b := (vq : Int)) hvq ?_
          refine zY.callV2iD (ct_X5_swap zrw_10 (by omega)) (by decide) zcal_X5_swap zml_X10_106 (by decide : 10 < 150) rfl rfl (Nat.le_of_ble_eq_true rfl) rfl ⟨Nat.zero_le _, Nat.zero_le _⟩ hO dX10_stand_45 ?_
          exact zY.iret rfl ⟨_, rfl, ⟨by unfold zA_stand; rw [if_pos c4, if_pos ⟨c16, by omega⟩, hvq, Int.toNat_natCast]; exact (hX.2.1.1 vq (by omega)).2.1, by unfold zU_stand; rw [if_pos ⟨c4, c16, by omega⟩, if_neg (by omega), hvq, Int.toNat_natCast]; exact zRX_set hX (zWF_set2 hX.1 (by omega)) (by omega), zSame.rfl'.wr (by decide) (by decide)⟩⟩ hR hO dX10_stand_48
        ·
          refine zY.bipush hO dX10_stand_39 (by decide) ?_
          refine zY.goto (tgt := 45) hO dX10_stand_41 (by decide) ?_
          refine zY.as2 (b := (vq : Int)) hvq ?_
          refine zY.callV2iD (ct_X5_swap zrw_10 (by omega)) (by decide) zcal_X5_swap zml_X10_106 (by decide : 10 < 150) rfl rfl (Nat.le_of_ble_eq_true rfl) rfl ⟨Nat.zero_le _, Nat.zero_le _⟩ hO dX10_stand_45 ?_
          exact zY.iret rfl ⟨_, rfl, ⟨by unfold zA_stand; rw [if_pos c4, if_pos ⟨c16, by omega⟩, hvq, Int.toNat_natCast]; exact (hX.2.1.1 vq (by omega)).2.1, by unfold zU_stand; rw [if_pos ⟨c4, c16, by omega⟩, if_pos (by omega), hvq, Int.toNat_natCast]; exact zRX_set hX (zWF_set2 hX.1 (by omega)) (by omega), zSame.rfl'.wr (by decide) (by decide)⟩⟩ hR hO dX10_stand_48
      ·
        refine zY.bipush hO dX10_stand_24 (by decide) ?_
        exact zY.iret rfl ⟨_, rfl, ⟨by unfold zA_stand; rw [if_pos c4, if_neg (fun z => by omega)], by unfold zU_stand; rw [if_neg (fun z => by omega)]; exact hX, zSame.rfl'⟩⟩ hR hO dX10_stand_26
  ·
    replace c4 := zb0.mp c4
    refine zY.iconst hO dX10_stand_7 ?_
    exact zY.iret rfl ⟨_, rfl, ⟨by unfold zA_stand; rw [if_neg c4], by unfold zU_stand; rw [if_neg (fun z => c4 z.1)]; exact hX, zSame.rfl'⟩⟩ hR hO dX10_stand_8

set_option maxRecDepth 100000 in
set_option maxHeartbeats 4000000 in
theorem ct_X10_lay {μ : zMem} {D : zBk} {K0 K1 : Option zBk} (hX : zRX D K0 K1 μ) {s v : Int} (hs : zr s) (hv : zr v) : Ci kX10_lay 4 150 zSX [zP 0, zI s, zI v] μ (fun a μ' => a = zA_lay D s v ∧ zRX (zU_lay D s v) K0 K1 μ' ∧ zSame 0 56 μ μ') := by
  refine Ct.of [some (zP 0), some (zI s), some (zI v)] rfl (Nat.le_of_ble_eq_true rfl) (by decide +kernel) (fun Γ ad hO hR => ?_)
  refine zY.iload_n hO dX10_lay_0 rfl ?_
  refine zY.callS1iD (ct_X10_isSort hs) (by decide) zcal_X10_isSort zml_X10_115 (Nat.le_of_ble_eq_true rfl) rfl ⟨Nat.zero_le _, Nat.zero_le _⟩ hO dX10_lay_1 ?_
  refine zY.if_ne (tgt := 9) zr_b hO dX10_lay_4 (by decide) (fun c4 => ?_) (fun c4 => ?_)
  ·
    replace c4 := zb1.mp c4
    obtain ⟨sq, hsq⟩ : ∃ sq : Nat, s = (sq : Int) := ⟨s.toNat, by omega⟩
    refine zY.iload_n hO dX10_lay_9 rfl ?_
    refine zY.iconst hO dX10_lay_10 ?_
    refine zY.bipush hO dX10_lay_11 (by decide) ?_
    refine zY.callS3iD (ct_X10_within hv ⟨by omega, by omega⟩ ⟨by omega, by omega⟩) (by decide) zcal_X10_within zml_X10_70 (Nat.le_of_ble_eq_true rfl) rfl ⟨Nat.zero_le _, Nat.zero_le _⟩ hO dX10_lay_13 ?_
    refine zY.if_eq (tgt := 34) zr_b hO dX10_lay_16 (by decide) (fun c16 => ?_) (fun c16 => ?_)
    ·
      replace c16 := zb0.mp c16
      refine zY.bipush hO dX10_lay_34 (by decide) ?_
      exact zY.iret rfl ⟨_, rfl, ⟨by unfold zA_lay; rw [if_pos c4, if_neg c16], by unfold zU_lay; rw [if_neg (fun z => c16 z.2)]; exact hX, zSame.rfl'⟩⟩ hR hO dX10_lay_36
    ·
      replace c16 := zb1.mp c16
      refine zY.aload_n hO dX10_lay_19 rfl ?_
      refine zY.getR zfl_X10_10 (by decide : 0 < 150) rfl rfl hO dX10_lay_20 ?_
      refine zY.getR zfl_X10_118 (by decide : 1 < 150) rfl rfl hO dX10_lay_23 ?_
      refine zY.iload_n hO dX10_lay_26 rfl ?_
      refine zY.iload_n hO dX10_lay_27 rfl ?_
      refine zY.as2 (b := (sq : Int)) hsq ?_
      refine zY.callV2iD (ct_X5_swap zrw_4 (by omega)) (by decide) zcal_X5_swap zml_X10_106 (by decide : 4 < 150) rfl rfl (Nat.le_of_ble_eq_true rfl) rfl ⟨Nat.zero_le _, Nat.zero_le _⟩ hO dX10_lay_28 ?_
      refine zY.goto (tgt := 36) hO dX10_lay_31 (by decide) ?_
      exact zY.iret rfl ⟨_, rfl, ⟨by unfold zA_lay; rw [if_pos c4, if_pos c16, hsq, Int.toNat_natCast]; exact (hX.2.1.2.1 sq (by omega)).2.1, by unfold zU_lay; rw [if_pos ⟨c4, c16⟩, hsq, Int.toNat_natCast]; exact zRX_set hX (zWF_set5 hX.1 c16) (by omega), zSame.rfl'.wr (by decide) (by decide)⟩⟩ hR hO dX10_lay_36
  ·
    replace c4 := zb0.mp c4
    refine zY.iconst hO dX10_lay_7 ?_
    exact zY.iret rfl ⟨_, rfl, ⟨by unfold zA_lay; rw [if_neg c4], by unfold zU_lay; rw [if_neg (fun z => c4 z.1)]; exact hX, zSame.rfl'⟩⟩ hR hO dX10_lay_8

set_option maxRecDepth 100000 in
set_option maxHeartbeats 4000000 in
theorem ct_X10_set {μ : zMem} {D : zBk} {K0 K1 : Option zBk} (hX : zRX D K0 K1 μ) {w v : Int} (hw : zr w) (hv : zr v) : Ci kX10_set 4 150 zSX [zP 0, zI w, zI v] μ (fun a μ' => a = zA_set D w v ∧ zRX (zU_set D w v) K0 K1 μ' ∧ zSame 0 56 μ μ') := by
  refine Ct.of [some (zP 0), some (zI w), some (zI v)] rfl (Nat.le_of_ble_eq_true rfl) (by decide +kernel) (fun Γ ad hO hR => ?_)
  refine zY.iload_n hO dX10_set_0 rfl ?_
  refine zY.if_ne (tgt := 31) hw hO dX10_set_1 (by decide) (fun c1 => ?_) (fun c1 => ?_)
  ·
    refine zY.iload_n hO dX10_set_31 rfl ?_
    refine zY.iconst hO dX10_set_32 ?_
    refine zY.icmp_eq (tgt := 43) hw ⟨by omega, by omega⟩ hO dX10_set_33 (by decide) (fun c33 => ?_) (fun c33 => ?_)
    ·
      refine zY.iload_n hO dX10_set_43 rfl ?_
      refine zY.iconst hO dX10_set_44 ?_
      refine zY.bipush hO dX10_set_45 (by decide) ?_
      refine zY.callS3iD (ct_X10_within hv ⟨by omega, by omega⟩ ⟨by omega, by omega⟩) (by decide) zcal_X10_within zml_X10_70 (Nat.le_of_ble_eq_true rfl) rfl ⟨Nat.zero_le _, Nat.zero_le _⟩ hO dX10_set_47 ?_
      refine zY.if_eq (tgt := 68) zr_b hO dX10_set_50 (by decide) (fun c50 => ?_) (fun c50 => ?_)
      ·
        replace c50 := zb0.mp c50
        refine zY.bipush hO dX10_set_68 (by decide) ?_
        exact zY.iret rfl ⟨_, rfl, ⟨by unfold zA_set; rw [if_neg (by omega), if_pos (by omega), if_neg c50], by unfold zU_set; rw [if_neg (by omega), if_pos (by omega), if_neg c50]; exact hX, zSame.rfl'⟩⟩ hR hO dX10_set_70
      ·
        replace c50 := zb1.mp c50
        refine zY.aload_n hO dX10_set_53 rfl ?_
        refine zY.getR zfl_X10_10 (by decide : 0 < 150) rfl rfl hO dX10_set_54 ?_
        refine zY.getR zfl_X10_121 (by decide : 1 < 150) rfl rfl hO dX10_set_57 ?_
        refine zY.iload_n hO dX10_set_60 rfl ?_
        refine zY.iload_n hO dX10_set_61 rfl ?_
        obtain ⟨wq, hwq⟩ : ∃ wq : Nat, w = (wq : Int) := ⟨w.toNat, by omega⟩
        refine zY.as2 (b := (wq : Int)) hwq ?_
        refine zY.callV2iD (ct_X5_swap zrw_2 (by omega)) (by decide) zcal_X5_swap zml_X10_106 (by decide : 2 < 150) rfl rfl (Nat.le_of_ble_eq_true rfl) rfl ⟨Nat.zero_le _, Nat.zero_le _⟩ hO dX10_set_62 ?_
        refine zY.goto (tgt := 70) hO dX10_set_65 (by decide) ?_
        exact zY.iret rfl ⟨_, rfl, ⟨by unfold zA_set; rw [if_neg (by omega), if_pos (by omega), if_pos c50, show wq = 1 by omega]; exact hX.2.1.2.2.1, by unfold zU_set; rw [if_neg (by omega), if_pos (by omega), if_pos c50]; exact zRX_set hX (zWF_set80 hX.1 c50) (by omega), zSame.rfl'.wr (by decide) (by decide)⟩⟩ hR hO dX10_set_70
    ·
      refine zY.iload_n hO dX10_set_36 rfl ?_
      refine zY.callS1iD (ct_X10_isRent hw) (by decide) zcal_X10_isRent zml_X10_124 (Nat.le_of_ble_eq_true rfl) rfl ⟨Nat.zero_le _, Nat.zero_le _⟩ hO dX10_set_37 ?_
      refine zY.if_eq (tgt := 71) zr_b hO dX10_set_40 (by decide) (fun c40 => ?_) (fun c40 => ?_)
      ·
        replace c40 := zb0.mp c40
        refine zY.bipush hO dX10_set_71 (by decide) ?_
        exact zY.iret rfl ⟨_, rfl, ⟨by unfold zA_set; rw [if_neg (by omega), if_neg (by omega), if_neg c40], by unfold zU_set; rw [if_neg (by omega), if_neg (by omega), if_neg c40]; exact hX, zSame.rfl'⟩⟩ hR hO dX10_set_73
      ·
        replace c40 := zb1.mp c40
        refine zY.iload_n hO dX10_set_43 rfl ?_
        refine zY.iconst hO dX10_set_44 ?_
        refine zY.bipush hO dX10_set_45 (by decide) ?_
        refine zY.callS3iD (ct_X10_within hv ⟨by omega, by omega⟩ ⟨by omega, by omega⟩) (by decide) zcal_X10_within zml_X10_70 (Nat.le_of_ble_eq_true rfl) rfl ⟨Nat.zero_le _, Nat.zero_le _⟩ hO dX10_set_47 ?_
        refine zY.if_eq (tgt := 68) zr_b hO dX10_set_50 (by decide) (fun c50 => ?_) (fun c50 => ?_)
        ·
          replace c50 := zb0.mp c50
          refine zY.bipush hO dX10_set_68 (by decide) ?_
          exact zY.iret rfl ⟨_, rfl, ⟨by unfold zA_set; rw [if_neg (by omega), if_neg (by omega), if_pos c40, if_neg c50], by unfold zU_set; rw [if_neg (by omega), if_neg (by omega), if_pos c40, if_neg c50]; exact hX, zSame.rfl'⟩⟩ hR hO dX10_set_70
        ·
          replace c50 := zb1.mp c50
          refine zY.aload_n hO dX10_set_53 rfl ?_
          refine zY.getR zfl_X10_10 (by decide : 0 < 150) rfl rfl hO dX10_set_54 ?_
          refine zY.getR zfl_X10_121 (by decide : 1 < 150) rfl rfl hO dX10_set_57 ?_
          refine zY.iload_n hO dX10_set_60 rfl ?_
          refine zY.iload_n hO dX10_set_61 rfl ?_
          obtain ⟨wq, hwq⟩ : ∃ wq : Nat, w = (wq : Int) := ⟨w.toNat, by omega⟩
          refine zY.as2 (b := (wq : Int)) hwq ?_
          refine zY.callV2iD (ct_X5_swap zrw_2 (by omega)) (by decide) zcal_X5_swap zml_X10_106 (by decide : 2 < 150) rfl rfl (Nat.le_of_ble_eq_true rfl) rfl ⟨Nat.zero_le _, Nat.zero_le _⟩ hO dX10_set_62 ?_
          refine zY.goto (tgt := 70) hO dX10_set_65 (by decide) ?_
          exact zY.iret rfl ⟨_, rfl, ⟨by unfold zA_set; rw [if_neg (by omega), if_neg (by omega), if_pos c40, if_pos c50, show wq = 10 + (w - 10).toNat by omega]; exact (hX.2.1.2.1 (w - 10).toNat (by omega)).2.2.1, by unfold zU_set; rw [if_neg (by omega), if_neg (by omega), if_pos c40, if_pos c50]; exact zRX_set hX (zWF_set6 hX.1 c50) (by omega), zSame.rfl'.wr (by decide) (by decide)⟩⟩ hR hO dX10_set_70
  ·
    refine zY.iload_n hO dX10_set_4 rfl ?_
    refine zY.iconst hO dX10_set_5 ?_
    refine zY.iconst hO dX10_set_6 ?_
    refine zY.callS3iD (ct_X10_within hv ⟨by omega, by omega⟩ ⟨by omega, by omega⟩) (by decide) zcal_X10_within zml_X10_70 (Nat.le_of_ble_eq_true rfl) rfl ⟨Nat.zero_le _, Nat.zero_le _⟩ hO dX10_set_7 ?_
    refine zY.if_eq (tgt := 28) zr_b hO dX10_set_10 (by decide) (fun c10 => ?_) (fun c10 => ?_)
    ·
      replace c10 := zb0.mp c10
      refine zY.bipush hO dX10_set_28 (by decide) ?_
      exact zY.iret rfl ⟨_, rfl, ⟨by unfold zA_set; rw [if_pos (by omega), if_neg c10], by unfold zU_set; rw [if_pos (by omega), if_neg c10]; exact hX, zSame.rfl'⟩⟩ hR hO dX10_set_30
    ·
      replace c10 := zb1.mp c10
      refine zY.aload_n hO dX10_set_13 rfl ?_
      refine zY.getR zfl_X10_10 (by decide : 0 < 150) rfl rfl hO dX10_set_14 ?_
      refine zY.getR zfl_X10_121 (by decide : 1 < 150) rfl rfl hO dX10_set_17 ?_
      refine zY.iload_n hO dX10_set_20 rfl ?_
      refine zY.iload_n hO dX10_set_21 rfl ?_
      refine zY.as2 (b := ((0 : Nat) : Int)) c1 ?_
      refine zY.callV2iD (ct_X5_swap zrw_2 (by omega)) (by decide) zcal_X5_swap zml_X10_106 (by decide : 2 < 150) rfl rfl (Nat.le_of_ble_eq_true rfl) rfl ⟨Nat.zero_le _, Nat.zero_le _⟩ hO dX10_set_22 ?_
      refine zY.goto (tgt := 30) hO dX10_set_25 (by decide) ?_
      exact zY.iret rfl ⟨_, rfl, ⟨by unfold zA_set; rw [if_pos (by omega), if_pos c10]; exact hX.2.1.2.2.2, by unfold zU_set; rw [if_pos (by omega), if_pos c10]; exact zRX_set hX (zWF_set81 hX.1 c10) (by omega), zSame.rfl'.wr (by decide) (by decide)⟩⟩ hR hO dX10_set_30

set_option maxRecDepth 100000 in
set_option maxHeartbeats 4000000 in
theorem ct_X10_needs {μ : zMem} {D : zBk} {K0 K1 : Option zBk} (hX : zRX D K0 K1 μ) {s x : Int} (hs : zr s) (hx : zr x) : Ci kX10_needs 8 150 zSX [zP 0, zI s, zI x] μ (fun a μ' => a = zA_needs D s x ∧ zSame 57 61 μ μ') := by
  refine Ct.of [some (zP 0), some (zI s), some (zI x)] rfl (Nat.le_of_ble_eq_true rfl) (by decide +kernel) (fun Γ ad hO hR => ?_)
  refine zY.iload_n hO dX10_needs_0 rfl ?_
  refine zY.callS1iD (ct_X10_isSheet hs) (by decide) zcal_X10_isSheet zml_X10_96 (Nat.le_of_ble_eq_true rfl) rfl ⟨Nat.zero_le _, Nat.zero_le _⟩ hO dX10_needs_1 ?_
  refine zY.if_eq (tgt := 14) zr_b hO dX10_needs_4 (by decide) (fun c4 => ?_) (fun c4 => ?_)
  ·
    replace c4 := zb0.mp c4
    refine zY.iconst hO dX10_needs_14 ?_
    exact zY.iret rfl ⟨_, rfl, ⟨by unfold zA_needs; rw [if_neg (fun z => by omega)], zSame.rfl'⟩⟩ hR hO dX10_needs_15
  ·
    replace c4 := zb1.mp c4
    obtain ⟨sq, hsq⟩ : ∃ sq : Nat, s = (sq : Int) := ⟨s.toNat, by omega⟩
    refine zY.iload_n hO dX10_needs_7 rfl ?_
    refine zY.callS1iD (ct_X10_isSortOrAll hx) (by decide) zcal_X10_isSortOrAll zml_X10_127 (Nat.le_of_ble_eq_true rfl) rfl ⟨Nat.zero_le _, Nat.zero_le _⟩ hO dX10_needs_8 ?_
    refine zY.if_ne (tgt := 16) zr_b hO dX10_needs_11 (by decide) (fun c11 => ?_) (fun c11 => ?_)
    ·
      replace c11 := zb1.mp c11
      refine zY.aload_n hO dX10_needs_16 rfl ?_
      refine zY.getR zfl_X10_38 (by decide : 0 < 150) rfl rfl hO dX10_needs_17 ?_
      refine zY.iload_n hO dX10_needs_20 rfl ?_
      refine zY.aload_n hO dX10_needs_21 rfl ?_
      refine zY.getR zfl_X10_10 (by decide : 0 < 150) rfl rfl hO dX10_needs_22 ?_
      refine zY.iload_n hO dX10_needs_25 rfl ?_
      refine zY.iconst hO dX10_needs_26 ?_
      obtain ⟨rfl⟩ := hsq
      refine zY.callV4v (ct_X0_write (ch := 0) (s := sq) (β := sq) zbl_57 hX.1 hX.2.1 (by omega) (by omega) (by omega)) (by decide) zcal_X0_write zml_X10_130 (by decide : 57 < 150) rfl rfl (Nat.le_of_ble_eq_true rfl) rfl ⟨Nat.zero_le _, Nat.zero_le _⟩ hO dX10_needs_27 (fun μ2 hq => ?_)
      obtain ⟨fq, hq1, hq2, hq3⟩ := hq
      have hq2 := hq2 (zokc_0 D sq)
      refine zY.iload_n hO dX10_needs_30 rfl ?_
      refine zY.if_ge (tgt := 45) hx hO dX10_needs_31 (by decide) (fun c31 => ?_) (fun c31 => ?_)
      ·
        refine zY.aload_n hO dX10_needs_45 rfl ?_
        refine zY.getR zfl_X10_38 (by decide : 0 < 150) rfl rfl hO dX10_needs_46 ?_
        refine zY.iload_n hO dX10_needs_49 rfl ?_
        refine zY.iload_n hO dX10_needs_50 rfl ?_
        obtain ⟨xq, hxq⟩ : ∃ xq : Nat, x = (xq : Int) := ⟨x.toNat, by omega⟩
        refine zY.as hxq ?_
        refine zY.callV2iD (ct_X0_amount zbl_57 (by omega) (by omega)) (by decide) zcal_X0_amount zml_X10_137 (by decide : 57 < 150) rfl rfl (Nat.le_of_ble_eq_true rfl) rfl ⟨Nat.zero_le _, Nat.zero_le _⟩ hO dX10_needs_51 ?_
        exact zY.iret rfl ⟨_, rfl, ⟨by unfold zA_needs; rw [if_pos ⟨c4, c11⟩, if_neg (by omega), hxq, Int.toNat_natCast, Int.toNat_natCast, hq3, zrow_ne (by decide), zrow_eq]; exact hq2 xq (by omega), by rw [hq3]; exact (zSame.rfl'.row (by decide) (by decide)).row (by decide) (by decide)⟩⟩ hR hO dX10_needs_54
      ·
        refine zY.aload_n hO dX10_needs_34 rfl ?_
        refine zY.getR zfl_X10_38 (by decide : 0 < 150) rfl rfl hO dX10_needs_35 ?_
        refine zY.iload_n hO dX10_needs_38 rfl ?_
        refine zY.callV1iD (ct_X0_broken zbl_57 (by omega)) (by decide) zcal_X0_broken zml_X10_134 (by decide : 57 < 150) rfl rfl (Nat.le_of_ble_eq_true rfl) rfl ⟨Nat.zero_le _, Nat.zero_le _⟩ hO dX10_needs_39 ?_
        refine zY.goto (tgt := 54) hO dX10_needs_42 (by decide) ?_
        exact zY.iret rfl ⟨_, rfl, ⟨by unfold zA_needs; rw [if_pos ⟨c4, c11⟩, if_pos (by omega), Int.toNat_natCast, hq3, zrow_eq]; exact if_pos rfl, by rw [hq3]; exact (zSame.rfl'.row (by decide) (by decide)).row (by decide) (by decide)⟩⟩ hR hO dX10_needs_54
    ·
      replace c11 := zb0.mp c11
      refine zY.iconst hO dX10_needs_14 ?_
      exact zY.iret rfl ⟨_, rfl, ⟨by unfold zA_needs; rw [if_neg (fun z => by omega)], zSame.rfl'⟩⟩ hR hO dX10_needs_15

set_option maxRecDepth 100000 in
set_option maxHeartbeats 4000000 in
theorem ct_X10_seen {μ : zMem} {D : zBk} {K0 K1 : Option zBk} (hX : zRX D K0 K1 μ) {s v : Int} (hs : zr s) (hv : zr v) : Ci kX10_seen 4 150 zSX [zP 0, zI s, zI v] μ (fun a μ' => a = zA_seen D s v ∧ zRX (zU_seen D s v) K0 K1 μ' ∧ zSame 0 56 μ μ') := by
  refine Ct.of [some (zP 0), some (zI s), some (zI v)] rfl (Nat.le_of_ble_eq_true rfl) (by decide +kernel) (fun Γ ad hO hR => ?_)
  refine zY.iload_n hO dX10_seen_0 rfl ?_
  refine zY.callS1iD (ct_X10_isSheet hs) (by decide) zcal_X10_isSheet zml_X10_96 (Nat.le_of_ble_eq_true rfl) rfl ⟨Nat.zero_le _, Nat.zero_le _⟩ hO dX10_seen_1 ?_
  refine zY.if_ne (tgt := 9) zr_b hO dX10_seen_4 (by decide) (fun c4 => ?_) (fun c4 => ?_)
  ·
    replace c4 := zb1.mp c4
    obtain ⟨sq, hsq⟩ : ∃ sq : Nat, s = (sq : Int) := ⟨s.toNat, by omega⟩
    refine zY.iload_n hO dX10_seen_9 rfl ?_
    refine zY.iconst hO dX10_seen_10 ?_
    refine zY.bipush hO dX10_seen_11 (by decide) ?_
    refine zY.callS3iD (ct_X10_within hv ⟨by omega, by omega⟩ ⟨by omega, by omega⟩) (by decide) zcal_X10_within zml_X10_70 (Nat.le_of_ble_eq_true rfl) rfl ⟨Nat.zero_le _, Nat.zero_le _⟩ hO dX10_seen_13 ?_
    refine zY.if_ne (tgt := 22) zr_b hO dX10_seen_16 (by decide) (fun c16 => ?_) (fun c16 => ?_)
    ·
      replace c16 := zb1.mp c16
      refine zY.aload_n hO dX10_seen_22 rfl ?_
      refine zY.getR zfl_X10_10 (by decide : 0 < 150) rfl rfl hO dX10_seen_23 ?_
      refine zY.getR zfl_X10_191 (by decide : 1 < 150) rfl rfl hO dX10_seen_26 ?_
      refine zY.iload_n hO dX10_seen_29 rfl ?_
      refine zY.iload_n hO dX10_seen_30 rfl ?_
      refine zY.if_ge (tgt := 39) hv hO dX10_seen_31 (by decide) (fun c31 => ?_) (fun c31 => ?_)
      ·
        refine zY.iload_n hO dX10_seen_39 rfl ?_
        refine zY.as2 (b := (sq : Int)) hsq ?_
        refine zY.callV2iD (ct_X5_swap zrw_16 (by omega)) (by decide) zcal_X5_swap zml_X10_106 (by decide : 16 < 150) rfl rfl (Nat.le_of_ble_eq_true rfl) rfl ⟨Nat.zero_le _, Nat.zero_le _⟩ hO dX10_seen_40 ?_
        exact zY.iret rfl ⟨_, rfl, ⟨by unfold zA_seen; rw [if_pos c4, if_pos c16, hsq, Int.toNat_natCast]; exact (hX.2.1.2.1 sq (by omega)).2.2.2.1, by unfold zU_seen; rw [if_pos ⟨c4, c16⟩, if_neg (by omega), hsq, Int.toNat_natCast]; exact zRX_set hX (zWF_set7 hX.1 (by omega)) (by omega), zSame.rfl'.wr (by decide) (by decide)⟩⟩ hR hO dX10_seen_43
      ·
        refine zY.bipush hO dX10_seen_34 (by decide) ?_
        refine zY.goto (tgt := 40) hO dX10_seen_36 (by decide) ?_
        refine zY.as2 (b := (sq : Int)) hsq ?_
        refine zY.callV2iD (ct_X5_swap zrw_16 (by omega)) (by decide) zcal_X5_swap zml_X10_106 (by decide : 16 < 150) rfl rfl (Nat.le_of_ble_eq_true rfl) rfl ⟨Nat.zero_le _, Nat.zero_le _⟩ hO dX10_seen_40 ?_
        exact zY.iret rfl ⟨_, rfl, ⟨by unfold zA_seen; rw [if_pos c4, if_pos c16, hsq, Int.toNat_natCast]; exact (hX.2.1.2.1 sq (by omega)).2.2.2.1, by unfold zU_seen; rw [if_pos ⟨c4, c16⟩, if_pos (by omega), hsq, Int.toNat_natCast]; exact zRX_set hX (zWF_set7 hX.1 (by omega)) (by omega), zSame.rfl'.wr (by decide) (by decide)⟩⟩ hR hO dX10_seen_43
    ·
      replace c16 := zb0.mp c16
      refine zY.bipush hO dX10_seen_19 (by decide) ?_
      exact zY.iret rfl ⟨_, rfl, ⟨by unfold zA_seen; rw [if_pos c4, if_neg c16], by unfold zU_seen; rw [if_neg (fun z => c16 z.2)]; exact hX, zSame.rfl'⟩⟩ hR hO dX10_seen_21
  ·
    replace c4 := zb0.mp c4
    refine zY.iconst hO dX10_seen_7 ?_
    exact zY.iret rfl ⟨_, rfl, ⟨by unfold zA_seen; rw [if_neg c4], by unfold zU_seen; rw [if_neg (fun z => c4 z.1)]; exact hX, zSame.rfl'⟩⟩ hR hO dX10_seen_8

set_option maxRecDepth 100000 in
set_option maxHeartbeats 4000000 in
theorem ct_X10_known {μ : zMem} {D : zBk} {K0 K1 : Option zBk} (hX : zRX D K0 K1 μ) {w o : Int} (hw : zr w) (ho : zr o) : Ci kX10_known 6 150 zSX [zP 0, zI w, zI o] μ (fun a μ' => a = zA_known D w o ∧ μ' = μ) := by
  refine Ct.of [some (zP 0), some (zI w), some (zI o)] rfl (Nat.le_of_ble_eq_true rfl) (by decide +kernel) (fun Γ ad hO hR => ?_)
  refine zY.iload_n hO dX10_known_0 rfl ?_
  refine zY.callS1iD (ct_X10_isWord hw) (by decide) zcal_X10_isWord zml_X10_88 (Nat.le_of_ble_eq_true rfl) rfl ⟨Nat.zero_le _, Nat.zero_le _⟩ hO dX10_known_1 ?_
  refine zY.if_ne (tgt := 9) zr_b hO dX10_known_4 (by decide) (fun c4 => ?_) (fun c4 => ?_)
  ·
    replace c4 := zb1.mp c4
    obtain ⟨wq, hwq⟩ : ∃ wq : Nat, w = (wq : Int) := ⟨w.toNat, by omega⟩
    refine zY.iload_n hO dX10_known_9 rfl ?_
    refine zY.iconst hO dX10_known_10 ?_
    refine zY.bipush hO dX10_known_11 (by decide) ?_
    refine zY.callS3iD (ct_X10_within ho ⟨by omega, by omega⟩ ⟨by omega, by omega⟩) (by decide) zcal_X10_within zml_X10_70 (Nat.le_of_ble_eq_true rfl) rfl ⟨Nat.zero_le _, Nat.zero_le _⟩ hO dX10_known_13 ?_
    refine zY.if_ne (tgt := 22) zr_b hO dX10_known_16 (by decide) (fun c16 => ?_) (fun c16 => ?_)
    ·
      replace c16 := zb1.mp c16
      obtain ⟨oq, hoq⟩ : ∃ oq : Nat, o = (oq : Int) := ⟨o.toNat, by omega⟩
      refine zY.aload_n hO dX10_known_22 rfl ?_
      refine zY.getR zfl_X10_10 (by decide : 0 < 150) rfl rfl hO dX10_known_23 ?_
      refine zY.iload_n hO dX10_known_26 rfl ?_
      refine zY.iload_n hO dX10_known_27 rfl ?_
      refine zY.as2 (b := (wq : Int)) hwq ?_
      refine zY.as hoq ?_
      refine zY.callV2iD (ct_X6_isClear hX.1 hX.2.1 (by omega) (by omega)) (by decide) zcal_X6_isClear zml_X10_200 (by decide : 1 < 150) rfl rfl (Nat.le_of_ble_eq_true rfl) rfl ⟨Nat.zero_le _, Nat.zero_le _⟩ hO dX10_known_28 ?_
      refine zY.if_eq (tgt := 38) zr_b hO dX10_known_31 (by decide) (fun c31 => ?_) (fun c31 => ?_)
      ·
        replace c31 := zb0.mp c31
        refine zY.iconst hO dX10_known_38 ?_
        exact zY.iret rfl ⟨_, rfl, ⟨by unfold zA_known; rw [if_pos c4, if_pos c16, hwq, hoq, Int.toNat_natCast, Int.toNat_natCast, if_neg c31], rfl⟩⟩ hR hO dX10_known_39
      ·
        replace c31 := zb1.mp c31
        refine zY.iconst hO dX10_known_34 ?_
        refine zY.goto (tgt := 39) hO dX10_known_35 (by decide) ?_
        exact zY.iret rfl ⟨_, rfl, ⟨by unfold zA_known; rw [if_pos c4, if_pos c16, hwq, hoq, Int.toNat_natCast, Int.toNat_natCast, if_pos c31], rfl⟩⟩ hR hO dX10_known_39
    ·
      replace c16 := zb0.mp c16
      refine zY.bipush hO dX10_known_19 (by decide) ?_
      exact zY.iret rfl ⟨_, rfl, ⟨by unfold zA_known; rw [if_pos c4, if_neg c16], rfl⟩⟩ hR hO dX10_known_21
  ·
    replace c4 := zb0.mp c4
    refine zY.iconst hO dX10_known_7 ?_
    exact zY.iret rfl ⟨_, rfl, ⟨by unfold zA_known; rw [if_neg c4], rfl⟩⟩ hR hO dX10_known_8

set_option maxRecDepth 100000 in
set_option maxHeartbeats 4000000 in
theorem ct_X10_knownOf {μ : zMem} {D : zBk} {K0 K1 : Option zBk} (hX : zRX D K0 K1 μ) {s o : Int} (hs : zr s) (ho : zr o) : Ci kX10_knownOf 7 150 zSX [zP 0, zI s, zI o] μ (fun a μ' => a = zA_knownOf D s o ∧ μ' = μ) := by
  refine Ct.of [some (zP 0), some (zI s), some (zI o)] rfl (Nat.le_of_ble_eq_true rfl) (by decide +kernel) (fun Γ ad hO hR => ?_)
  refine zY.iload_n hO dX10_knownOf_0 rfl ?_
  refine zY.callS1iD (ct_X10_isSheet hs) (by decide) zcal_X10_isSheet zml_X10_96 (Nat.le_of_ble_eq_true rfl) rfl ⟨Nat.zero_le _, Nat.zero_le _⟩ hO dX10_knownOf_1 ?_
  refine zY.if_ne (tgt := 9) zr_b hO dX10_knownOf_4 (by decide) (fun c4 => ?_) (fun c4 => ?_)
  ·
    replace c4 := zb1.mp c4
    obtain ⟨sq, hsq⟩ : ∃ sq : Nat, s = (sq : Int) := ⟨s.toNat, by omega⟩
    refine zY.iload_n hO dX10_knownOf_9 rfl ?_
    refine zY.iconst hO dX10_knownOf_10 ?_
    refine zY.bipush hO dX10_knownOf_11 (by decide) ?_
    refine zY.callS3iD (ct_X10_within ho ⟨by omega, by omega⟩ ⟨by omega, by omega⟩) (by decide) zcal_X10_within zml_X10_70 (Nat.le_of_ble_eq_true rfl) rfl ⟨Nat.zero_le _, Nat.zero_le _⟩ hO dX10_knownOf_13 ?_
    refine zY.if_eq (tgt := 31) zr_b hO dX10_knownOf_16 (by decide) (fun c16 => ?_) (fun c16 => ?_)
    ·
      replace c16 := zb0.mp c16
      refine zY.bipush hO dX10_knownOf_31 (by decide) ?_
      exact zY.iret rfl ⟨_, rfl, ⟨by unfold zA_knownOf; rw [if_pos c4, if_neg c16], rfl⟩⟩ hR hO dX10_knownOf_33
    ·
      replace c16 := zb1.mp c16
      obtain ⟨oq, hoq⟩ : ∃ oq : Nat, o = (oq : Int) := ⟨o.toNat, by omega⟩
      refine zY.aload_n hO dX10_knownOf_19 rfl ?_
      refine zY.getR zfl_X10_10 (by decide : 0 < 150) rfl rfl hO dX10_knownOf_20 ?_
      refine zY.iload_n hO dX10_knownOf_23 rfl ?_
      refine zY.iload_n hO dX10_knownOf_24 rfl ?_
      refine zY.as2 (b := (sq : Int)) hsq ?_
      refine zY.as hoq ?_
      refine zY.callV2iD (ct_X6_clearPlaces hX.1 hX.2.1 (by omega) (by omega)) (by decide) zcal_X6_clearPlaces zml_X10_204 (by decide : 1 < 150) rfl rfl (Nat.le_of_ble_eq_true rfl) rfl ⟨Nat.zero_le _, Nat.zero_le _⟩ hO dX10_knownOf_25 ?_
      refine zY.goto (tgt := 33) hO dX10_knownOf_28 (by decide) ?_
      exact zY.iret rfl ⟨_, rfl, ⟨by unfold zA_knownOf; rw [if_pos c4, if_pos c16, hsq, hoq, Int.toNat_natCast, Int.toNat_natCast], rfl⟩⟩ hR hO dX10_knownOf_33
  ·
    replace c4 := zb0.mp c4
    refine zY.iconst hO dX10_knownOf_7 ?_
    exact zY.iret rfl ⟨_, rfl, ⟨by unfold zA_knownOf; rw [if_neg c4], rfl⟩⟩ hR hO dX10_knownOf_8

theorem zY.asW {Γ : zCx} {ω : zOm} {pc : Nat} {lv : List (Option Value)} {st : List Value} {μ : zMem} {a b : Int} (h : Int32.ofInt a = Int32.ofInt b) (kk : zY Γ ω pc lv (zI b :: st) μ) : zY Γ ω pc lv (zI a :: st) μ := by
  have e : zI a = zI b := by unfold zI; rw [h]
  rw [e]
  exact kk
theorem zwrap {w c : Int} (hw : zr w) (h0 : 0 ≤ c) (h1 : c ≤ 100) : ∃ b, zr b ∧ Int32.ofInt (w - c) = Int32.ofInt b ∧ ∀ n, 0 ≤ n → n ≤ 100 → ((0 ≤ b ∧ b ≤ n) ↔ (c ≤ w ∧ w ≤ c + n)) := by
  by_cases h : -2147483648 ≤ w - c
  · exact ⟨w - c, ⟨by omega, by omega⟩, rfl, fun n _ _ => by omega⟩
  · refine ⟨w - c + 4294967296, ⟨by omega, by omega⟩, ?_, fun n _ _ => by omega⟩
    apply Int32.toInt_inj.mp
    rw [Int32.toInt_ofInt, Int32.toInt_ofInt]
    have e : (Int32.size : Nat) = 4294967296 := rfl
    rw [e]
    unfold Int.bmod
    have e2 : (w - c + 4294967296) % ((4294967296 : Nat) : Int) = (w - c) % ((4294967296 : Nat) : Int) := by omega
    rw [e2]

set_option maxRecDepth 100000 in
set_option maxHeartbeats 4000000 in
theorem ct_X10_toldOfRows {μ : zMem} {D : zBk} {K0 K1 : Option zBk} (hX : zRX D K0 K1 μ) {w : Int} (hw : zr w) : Ci kX10_toldOfRows 4 150 zSX [zP 0, zI w] μ (fun a μ' => a = (if 20 ≤ w ∧ w ≤ 25 then D 5 (w - 20).toNat else if 30 ≤ w ∧ w ≤ 39 then D 1 (w - 30).toNat else if 40 ≤ w ∧ w ≤ 49 then D 2 (w - 40).toNat else if 50 ≤ w ∧ w ≤ 55 then D 4 (w - 50).toNat else if 60 ≤ w ∧ w ≤ 65 then D 7 (w - 60).toNat else -2) ∧ μ' = μ) := by
  refine Ct.of [some (zP 0), some (zI w)] rfl (Nat.le_of_ble_eq_true rfl) (by decide +kernel) (fun Γ ad hO hR => ?_)
  refine zY.iload_n hO dX10_toldOfRows_0 rfl ?_
  refine zY.bipush hO dX10_toldOfRows_1 (by decide) ?_
  refine zY.isub hO dX10_toldOfRows_3 ?_
  obtain ⟨bq4, hbq4, heq4, hiq4⟩ := zwrap hw (c := 20) (by omega) (by omega)
  refine zY.asW heq4 ?_
  have hnq4 := hiq4 5 (by omega) (by omega)
  refine zY.callS1iD (ct_X10_isSort hbq4) (by decide) zcal_X10_isSort zml_X10_115 (Nat.le_of_ble_eq_true rfl) rfl ⟨Nat.zero_le _, Nat.zero_le _⟩ hO dX10_toldOfRows_4 ?_
  refine zY.if_eq (tgt := 25) zr_b hO dX10_toldOfRows_7 (by decide) (fun c7 => ?_) (fun c7 => ?_)
  ·
    replace c7 := zb0.mp c7
    refine zY.iload_n hO dX10_toldOfRows_25 rfl ?_
    refine zY.bipush hO dX10_toldOfRows_26 (by decide) ?_
    refine zY.isub hO dX10_toldOfRows_28 ?_
    obtain ⟨bq29, hbq29, heq29, hiq29⟩ := zwrap hw (c := 30) (by omega) (by omega)
    refine zY.asW heq29 ?_
    have hnq29 := hiq29 9 (by omega) (by omega)
    refine zY.callS1iD (ct_X10_isWord hbq29) (by decide) zcal_X10_isWord zml_X10_88 (Nat.le_of_ble_eq_true rfl) rfl ⟨Nat.zero_le _, Nat.zero_le _⟩ hO dX10_toldOfRows_29 ?_
    refine zY.if_eq (tgt := 50) zr_b hO dX10_toldOfRows_32 (by decide) (fun c32 => ?_) (fun c32 => ?_)
    ·
      replace c32 := zb0.mp c32
      refine zY.iload_n hO dX10_toldOfRows_50 rfl ?_
      refine zY.bipush hO dX10_toldOfRows_51 (by decide) ?_
      refine zY.isub hO dX10_toldOfRows_53 ?_
      obtain ⟨bq54, hbq54, heq54, hiq54⟩ := zwrap hw (c := 40) (by omega) (by omega)
      refine zY.asW heq54 ?_
      have hnq54 := hiq54 9 (by omega) (by omega)
      refine zY.callS1iD (ct_X10_isWord hbq54) (by decide) zcal_X10_isWord zml_X10_88 (Nat.le_of_ble_eq_true rfl) rfl ⟨Nat.zero_le _, Nat.zero_le _⟩ hO dX10_toldOfRows_54 ?_
      refine zY.if_eq (tgt := 75) zr_b hO dX10_toldOfRows_57 (by decide) (fun c57 => ?_) (fun c57 => ?_)
      ·
        replace c57 := zb0.mp c57
        refine zY.iload_n hO dX10_toldOfRows_75 rfl ?_
        refine zY.bipush hO dX10_toldOfRows_76 (by decide) ?_
        refine zY.isub hO dX10_toldOfRows_78 ?_
        obtain ⟨bq79, hbq79, heq79, hiq79⟩ := zwrap hw (c := 50) (by omega) (by omega)
        refine zY.asW heq79 ?_
        have hnq79 := hiq79 5 (by omega) (by omega)
        refine zY.callS1iD (ct_X10_isSheet hbq79) (by decide) zcal_X10_isSheet zml_X10_96 (Nat.le_of_ble_eq_true rfl) rfl ⟨Nat.zero_le _, Nat.zero_le _⟩ hO dX10_toldOfRows_79 ?_
        refine zY.if_eq (tgt := 100) zr_b hO dX10_toldOfRows_82 (by decide) (fun c82 => ?_) (fun c82 => ?_)
        ·
          replace c82 := zb0.mp c82
          refine zY.iload_n hO dX10_toldOfRows_100 rfl ?_
          refine zY.bipush hO dX10_toldOfRows_101 (by decide) ?_
          refine zY.isub hO dX10_toldOfRows_103 ?_
          obtain ⟨bq104, hbq104, heq104, hiq104⟩ := zwrap hw (c := 60) (by omega) (by omega)
          refine zY.asW heq104 ?_
          have hnq104 := hiq104 5 (by omega) (by omega)
          refine zY.callS1iD (ct_X10_isSheet hbq104) (by decide) zcal_X10_isSheet zml_X10_96 (Nat.le_of_ble_eq_true rfl) rfl ⟨Nat.zero_le _, Nat.zero_le _⟩ hO dX10_toldOfRows_104 ?_
          refine zY.if_eq (tgt := 127) zr_b hO dX10_toldOfRows_107 (by decide) (fun c107 => ?_) (fun c107 => ?_)
          ·
            replace c107 := zb0.mp c107
            refine zY.bipush hO dX10_toldOfRows_127 (by decide) ?_
            exact zY.iret rfl ⟨_, rfl, ⟨by rw [if_neg (by omega), if_neg (by omega), if_neg (by omega), if_neg (by omega), if_neg (by omega)], rfl⟩⟩ hR hO dX10_toldOfRows_129
          ·
            replace c107 := zb1.mp c107
            refine zY.aload_n hO dX10_toldOfRows_110 rfl ?_
            refine zY.getR zfl_X10_10 (by decide : 0 < 150) rfl rfl hO dX10_toldOfRows_111 ?_
            refine zY.getR zfl_X10_191 (by decide : 1 < 150) rfl rfl hO dX10_toldOfRows_114 ?_
            refine zY.iload_n hO dX10_toldOfRows_117 rfl ?_
            refine zY.bipush hO dX10_toldOfRows_118 (by decide) ?_
            refine zY.isub hO dX10_toldOfRows_120 ?_
            refine zY.as (b := (((w - 60).toNat : Nat) : Int)) (by omega) ?_
            refine zY.callV1iD (ct_atN zrw_16 (j := (w - 60).toNat) (by omega)) (by decide) zcal_X5_at zml_X10_221 (by decide : 16 < 150) rfl rfl (Nat.le_of_ble_eq_true rfl) rfl ⟨Nat.zero_le _, Nat.zero_le _⟩ hO dX10_toldOfRows_121 ?_
            refine zY.goto (tgt := 129) hO dX10_toldOfRows_124 (by decide) ?_
            exact zY.iret rfl ⟨_, rfl, ⟨by rw [if_neg (by omega), if_neg (by omega), if_neg (by omega), if_neg (by omega), if_pos (by omega)]; exact (hX.2.1.2.1 _ (by omega)).2.2.2.1, rfl⟩⟩ hR hO dX10_toldOfRows_129
        ·
          replace c82 := zb1.mp c82
          refine zY.aload_n hO dX10_toldOfRows_85 rfl ?_
          refine zY.getR zfl_X10_10 (by decide : 0 < 150) rfl rfl hO dX10_toldOfRows_86 ?_
          refine zY.getR zfl_X10_102 (by decide : 1 < 150) rfl rfl hO dX10_toldOfRows_89 ?_
          refine zY.iload_n hO dX10_toldOfRows_92 rfl ?_
          refine zY.bipush hO dX10_toldOfRows_93 (by decide) ?_
          refine zY.isub hO dX10_toldOfRows_95 ?_
          refine zY.as (b := (((w - 50).toNat : Nat) : Int)) (by omega) ?_
          refine zY.callV1iD (ct_atN zrw_14 (j := (w - 50).toNat) (by omega)) (by decide) zcal_X5_at zml_X10_221 (by decide : 14 < 150) rfl rfl (Nat.le_of_ble_eq_true rfl) rfl ⟨Nat.zero_le _, Nat.zero_le _⟩ hO dX10_toldOfRows_96 ?_
          exact zY.iret rfl ⟨_, rfl, ⟨by rw [if_neg (by omega), if_neg (by omega), if_neg (by omega), if_pos (by omega)]; exact (hX.2.1.2.1 _ (by omega)).1, rfl⟩⟩ hR hO dX10_toldOfRows_99
      ·
        replace c57 := zb1.mp c57
        refine zY.aload_n hO dX10_toldOfRows_60 rfl ?_
        refine zY.getR zfl_X10_10 (by decide : 0 < 150) rfl rfl hO dX10_toldOfRows_61 ?_
        refine zY.getR zfl_X10_112 (by decide : 1 < 150) rfl rfl hO dX10_toldOfRows_64 ?_
        refine zY.iload_n hO dX10_toldOfRows_67 rfl ?_
        refine zY.bipush hO dX10_toldOfRows_68 (by decide) ?_
        refine zY.isub hO dX10_toldOfRows_70 ?_
        refine zY.as (b := (((w - 40).toNat : Nat) : Int)) (by omega) ?_
        refine zY.callV1iD (ct_atN zrw_10 (j := (w - 40).toNat) (by omega)) (by decide) zcal_X5_at zml_X10_221 (by decide : 10 < 150) rfl rfl (Nat.le_of_ble_eq_true rfl) rfl ⟨Nat.zero_le _, Nat.zero_le _⟩ hO dX10_toldOfRows_71 ?_
        exact zY.iret rfl ⟨_, rfl, ⟨by rw [if_neg (by omega), if_neg (by omega), if_pos (by omega)]; exact (hX.2.1.1 _ (by omega)).2.1, rfl⟩⟩ hR hO dX10_toldOfRows_74
    ·
      replace c32 := zb1.mp c32
      refine zY.aload_n hO dX10_toldOfRows_35 rfl ?_
      refine zY.getR zfl_X10_10 (by decide : 0 < 150) rfl rfl hO dX10_toldOfRows_36 ?_
      refine zY.getR zfl_X10_227 (by decide : 1 < 150) rfl rfl hO dX10_toldOfRows_39 ?_
      refine zY.iload_n hO dX10_toldOfRows_42 rfl ?_
      refine zY.bipush hO dX10_toldOfRows_43 (by decide) ?_
      refine zY.isub hO dX10_toldOfRows_45 ?_
      refine zY.as (b := (((w - 30).toNat : Nat) : Int)) (by omega) ?_
      refine zY.callV1iD (ct_atN zrw_8 (j := (w - 30).toNat) (by omega)) (by decide) zcal_X5_at zml_X10_221 (by decide : 8 < 150) rfl rfl (Nat.le_of_ble_eq_true rfl) rfl ⟨Nat.zero_le _, Nat.zero_le _⟩ hO dX10_toldOfRows_46 ?_
      exact zY.iret rfl ⟨_, rfl, ⟨by rw [if_neg (by omega), if_pos (by omega)]; exact (hX.2.1.1 _ (by omega)).1, rfl⟩⟩ hR hO dX10_toldOfRows_49
  ·
    replace c7 := zb1.mp c7
    refine zY.aload_n hO dX10_toldOfRows_10 rfl ?_
    refine zY.getR zfl_X10_10 (by decide : 0 < 150) rfl rfl hO dX10_toldOfRows_11 ?_
    refine zY.getR zfl_X10_118 (by decide : 1 < 150) rfl rfl hO dX10_toldOfRows_14 ?_
    refine zY.iload_n hO dX10_toldOfRows_17 rfl ?_
    refine zY.bipush hO dX10_toldOfRows_18 (by decide) ?_
    refine zY.isub hO dX10_toldOfRows_20 ?_
    refine zY.as (b := (((w - 20).toNat : Nat) : Int)) (by omega) ?_
    refine zY.callV1iD (ct_atN zrw_4 (j := (w - 20).toNat) (by omega)) (by decide) zcal_X5_at zml_X10_221 (by decide : 4 < 150) rfl rfl (Nat.le_of_ble_eq_true rfl) rfl ⟨Nat.zero_le _, Nat.zero_le _⟩ hO dX10_toldOfRows_21 ?_
    exact zY.iret rfl ⟨_, rfl, ⟨by rw [if_pos (by omega)]; exact (hX.2.1.2.1 _ (by omega)).2.1, rfl⟩⟩ hR hO dX10_toldOfRows_24

set_option maxRecDepth 100000 in
set_option maxHeartbeats 4000000 in
theorem ct_X10_told {μ : zMem} {D : zBk} {K0 K1 : Option zBk} (hX : zRX D K0 K1 μ) {w : Int} (hw : zr w) : Ci kX10_told 5 150 zSX [zP 0, zI w] μ (fun a μ' => a = zA_told D w ∧ μ' = μ) := by
  refine Ct.of [some (zP 0), some (zI w)] rfl (Nat.le_of_ble_eq_true rfl) (by decide +kernel) (fun Γ ad hO hR => ?_)
  refine zY.iload_n hO dX10_told_0 rfl ?_
  refine zY.if_ne (tgt := 12) hw hO dX10_told_1 (by decide) (fun c1 => ?_) (fun c1 => ?_)
  ·
    refine zY.iload_n hO dX10_told_12 rfl ?_
    refine zY.iconst hO dX10_told_13 ?_
    refine zY.icmp_ne (tgt := 25) hw ⟨by omega, by omega⟩ hO dX10_told_14 (by decide) (fun c14 => ?_) (fun c14 => ?_)
    ·
      refine zY.iload_n hO dX10_told_25 rfl ?_
      refine zY.iconst hO dX10_told_26 ?_
      refine zY.icmp_ne (tgt := 42) hw ⟨by omega, by omega⟩ hO dX10_told_27 (by decide) (fun c27 => ?_) (fun c27 => ?_)
      ·
        refine zY.iload_n hO dX10_told_42 rfl ?_
        refine zY.iconst hO dX10_told_43 ?_
        refine zY.icmp_ne (tgt := 59) hw ⟨by omega, by omega⟩ hO dX10_told_44 (by decide) (fun c44 => ?_) (fun c44 => ?_)
        ·
          refine zY.iload_n hO dX10_told_59 rfl ?_
          refine zY.callS1iD (ct_X10_isRent hw) (by decide) zcal_X10_isRent zml_X10_124 (Nat.le_of_ble_eq_true rfl) rfl ⟨Nat.zero_le _, Nat.zero_le _⟩ hO dX10_told_60 ?_
          refine zY.if_eq (tgt := 80) zr_b hO dX10_told_63 (by decide) (fun c63 => ?_) (fun c63 => ?_)
          ·
            replace c63 := zb0.mp c63
            refine zY.aload_n hO dX10_told_80 rfl ?_
            refine zY.iload_n hO dX10_told_81 rfl ?_
            refine zY.callV1iD (ct_X10_toldOfRows hX hw) (by decide) zcal_X10_toldOfRows zml_X10_224 (by decide : 0 < 150) rfl rfl (Nat.le_of_ble_eq_true rfl) rfl ⟨Nat.zero_le _, Nat.zero_le _⟩ hO dX10_told_82 ?_
            exact zY.iret rfl ⟨_, rfl, ⟨by unfold zA_told; rw [if_neg c1, if_neg c14, if_neg c27, if_neg c44, if_neg c63], rfl⟩⟩ hR hO dX10_told_85
          ·
            replace c63 := zb1.mp c63
            refine zY.aload_n hO dX10_told_66 rfl ?_
            refine zY.getR zfl_X10_10 (by decide : 0 < 150) rfl rfl hO dX10_told_67 ?_
            refine zY.getR zfl_X10_121 (by decide : 1 < 150) rfl rfl hO dX10_told_70 ?_
            refine zY.iload_n hO dX10_told_73 rfl ?_
            refine zY.as (b := ((10 + (w - 10).toNat : Nat) : Int)) (by omega) ?_
            refine zY.callV1iD (ct_atN zrw_2 (j := 10 + (w - 10).toNat) (by omega)) (by decide) zcal_X5_at zml_X10_221 (by decide : 2 < 150) rfl rfl (Nat.le_of_ble_eq_true rfl) rfl ⟨Nat.zero_le _, Nat.zero_le _⟩ hO dX10_told_74 ?_
            refine zY.goto (tgt := 85) hO dX10_told_77 (by decide) ?_
            exact zY.iret rfl ⟨_, rfl, ⟨by unfold zA_told; rw [if_neg (by omega), if_neg (by omega), if_neg (by omega), if_neg (by omega), if_pos c63]; exact (hX.2.1.2.1 _ (by omega)).2.2.1, rfl⟩⟩ hR hO dX10_told_85
        ·
          refine zY.aload_n hO dX10_told_47 rfl ?_
          refine zY.getR zfl_X10_10 (by decide : 0 < 150) rfl rfl hO dX10_told_48 ?_
          refine zY.getR zfl_X10_121 (by decide : 1 < 150) rfl rfl hO dX10_told_51 ?_
          refine zY.iconst hO dX10_told_54 ?_
          refine zY.callV1iD (ct_atN zrw_2 (j := 1) (by omega)) (by decide) zcal_X5_at zml_X10_221 (by decide : 2 < 150) rfl rfl (Nat.le_of_ble_eq_true rfl) rfl ⟨Nat.zero_le _, Nat.zero_le _⟩ hO dX10_told_55 ?_
          exact zY.iret rfl ⟨_, rfl, ⟨by unfold zA_told; rw [if_neg (by omega), if_neg (by omega), if_neg (by omega), if_pos (by omega)]; exact hX.2.1.2.2.1, rfl⟩⟩ hR hO dX10_told_58
      ·
        refine zY.aload_n hO dX10_told_30 rfl ?_
        refine zY.getR zfl_X10_10 (by decide : 0 < 150) rfl rfl hO dX10_told_31 ?_
        refine zY.getR zfl_X10_121 (by decide : 1 < 150) rfl rfl hO dX10_told_34 ?_
        refine zY.iconst hO dX10_told_37 ?_
        refine zY.callV1iD (ct_atN zrw_2 (j := 0) (by omega)) (by decide) zcal_X5_at zml_X10_221 (by decide : 2 < 150) rfl rfl (Nat.le_of_ble_eq_true rfl) rfl ⟨Nat.zero_le _, Nat.zero_le _⟩ hO dX10_told_38 ?_
        exact zY.iret rfl ⟨_, rfl, ⟨by unfold zA_told; rw [if_neg (by omega), if_neg (by omega), if_pos (by omega)]; exact hX.2.1.2.2.2, rfl⟩⟩ hR hO dX10_told_41
    ·
      refine zY.aload_n hO dX10_told_17 rfl ?_
      refine zY.getR zfl_X10_10 (by decide : 0 < 150) rfl rfl hO dX10_told_18 ?_
      refine zY.callV0iD (ct_X6_there (fun s hs => by have h1 := (hX.2.1.2.1 s hs).1; have h2 := hX.1.2.1 s hs; exact ⟨by rw [show (μ 15 s) = D 4 s from h1]; omega, by rw [show (μ 15 s) = D 4 s from h1]; omega⟩)) (by decide) zcal_X6_there zml_X10_218 (by decide : 1 < 150) rfl rfl (Nat.le_of_ble_eq_true rfl) rfl ⟨Nat.zero_le _, Nat.zero_le _⟩ hO dX10_told_21 ?_
      exact zY.iret rfl ⟨_, rfl, ⟨by unfold zA_told zthD; rw [if_neg (by omega), if_pos (by omega), zth_congr (fun s hs => (hX.2.1.2.1 s hs).1)], rfl⟩⟩ hR hO dX10_told_24
  ·
    refine zY.aload_n hO dX10_told_4 rfl ?_
    refine zY.getR zfl_X10_19 (by decide : 0 < 150) rfl rfl hO dX10_told_5 ?_
    refine zY.callV0iD (ct_X3_count) (by decide) zcal_X3_count zml_X10_74 (by decide : 18 < 150) rfl rfl (Nat.le_of_ble_eq_true rfl) rfl ⟨Nat.zero_le _, Nat.zero_le _⟩ hO dX10_told_8 ?_
    exact zY.iret rfl ⟨_, rfl, ⟨by unfold zA_told; rw [if_pos (by omega)]; exact hX.2.2.1.2, rfl⟩⟩ hR hO dX10_told_11

set_option maxRecDepth 100000 in
set_option maxHeartbeats 4000000 in
theorem ct_imageOf0 {μ : zMem}  : Cr kX10_imageOf 1 150 zSX [zP 0, zI 0] μ (fun q μ' => q = 21 ∧ μ' = μ) := by
  refine Ct.of [some (zP 0), some (zI 0)] rfl (Nat.le_of_ble_eq_true rfl) (by decide +kernel) (fun Γ ad hO hR => ?_)
  refine zY.iload_n hO dX10_imageOf_0 rfl ?_
  refine zY.if_ne (tgt := 11) ⟨by omega, by omega⟩ hO dX10_imageOf_1 (by decide) (fun c1 => ?_) (fun c1 => ?_)
  ·
    exfalso
    omega
  ·
    refine zY.aload_n hO dX10_imageOf_4 rfl ?_
    refine zY.getR zfl_X10_26 (by decide : 0 < 150) rfl rfl hO dX10_imageOf_5 ?_
    refine zY.goto (tgt := 15) hO dX10_imageOf_8 (by decide) ?_
    exact zY.aret rfl (Or.inl ⟨_, rfl⟩) ⟨_, rfl, ⟨rfl, rfl⟩⟩ hR hO dX10_imageOf_15

set_option maxRecDepth 100000 in
set_option maxHeartbeats 4000000 in
theorem ct_imageOf1 {μ : zMem}  : Cr kX10_imageOf 1 150 zSX [zP 0, zI 1] μ (fun q μ' => q = 39 ∧ μ' = μ) := by
  refine Ct.of [some (zP 0), some (zI 1)] rfl (Nat.le_of_ble_eq_true rfl) (by decide +kernel) (fun Γ ad hO hR => ?_)
  refine zY.iload_n hO dX10_imageOf_0 rfl ?_
  refine zY.if_ne (tgt := 11) ⟨by omega, by omega⟩ hO dX10_imageOf_1 (by decide) (fun c1 => ?_) (fun c1 => ?_)
  ·
    refine zY.aload_n hO dX10_imageOf_11 rfl ?_
    refine zY.getR zfl_X10_30 (by decide : 0 < 150) rfl rfl hO dX10_imageOf_12 ?_
    exact zY.aret rfl (Or.inl ⟨_, rfl⟩) ⟨_, rfl, ⟨rfl, rfl⟩⟩ hR hO dX10_imageOf_15
  ·
    exfalso
    omega

set_option maxRecDepth 100000 in
set_option maxHeartbeats 4000000 in
theorem ct_image0 {μ : zMem} {D : zBk} {K0 K1 : Option zBk} (hX : zRX D K0 K1 μ)  : Ci kX10_image 6 150 zSX [zP 0, zI 0] μ (fun a μ' => a = 1 ∧ zRX D (some D) K1 μ' ∧ zSame 0 56 μ μ') := by
  refine Ct.of [some (zP 0), some (zI 0)] rfl (Nat.le_of_ble_eq_true rfl) (by decide +kernel) (fun Γ ad hO hR => ?_)
  refine zY.iload_n hO dX10_image_0 rfl ?_
  refine zY.iconst hO dX10_image_1 ?_
  refine zY.iconst hO dX10_image_2 ?_
  refine zY.callS3iD (ct_X10_within ⟨by omega, by omega⟩ ⟨by omega, by omega⟩ ⟨by omega, by omega⟩) (by decide) zcal_X10_within zml_X10_70 (Nat.le_of_ble_eq_true rfl) rfl ⟨Nat.zero_le _, Nat.zero_le _⟩ hO dX10_image_3 ?_
  refine zY.if_ne (tgt := 12) zr_b hO dX10_image_6 (by decide) (fun c6 => ?_) (fun c6 => ?_)
  ·
    replace c6 := zb1.mp c6
    refine zY.aload_n hO dX10_image_12 rfl ?_
    refine zY.iload_n hO dX10_image_13 rfl ?_
    refine zY.callV1rD (ct_imageOf0) (by decide) zcal_X10_imageOf zml_X10_207 (by decide : 0 < 150) rfl rfl (Nat.le_of_ble_eq_true rfl) rfl ⟨Nat.zero_le _, Nat.zero_le _⟩ hO dX10_image_14 ?_
    refine zY.aload_n hO dX10_image_17 rfl ?_
    refine zY.getR zfl_X10_10 (by decide : 0 < 150) rfl rfl hO dX10_image_18 ?_
    refine zY.callV1v (ct_keep_21 hX.1 hX.2.1) (by decide) zcal_X2_keep zml_X10_211 (by decide : 21 < 150) rfl rfl (Nat.le_of_ble_eq_true rfl) rfl ⟨Nat.zero_le _, Nat.zero_le _⟩ hO dX10_image_21 (fun μ2 hq1 => ?_)
    refine zY.iconst hO dX10_image_24 ?_
    exact zY.iret rfl ⟨_, rfl, ⟨rfl, ⟨hX.1, hq1.2.shp hX.2.1 (by decide), hq1.2.pad hX.2.2.1 (by decide), hq1.1, hX.2.2.2.2.row (fun q h1 h2 => hq1.2 q (Or.inr (by omega)))⟩, hq1.2.wide (by decide) (by decide)⟩⟩ hR hO dX10_image_25
  ·
    exfalso
    replace c6 := zb0.mp c6
    omega

set_option maxRecDepth 100000 in
set_option maxHeartbeats 4000000 in
theorem ct_restore0 {μ : zMem} {D : zBk} {K0 K1 : Option zBk} (hX : zRX D K0 K1 μ)  : Ci kX10_restore 6 150 zSX [zP 0, zI 0] μ (fun a μ' => (K0 = none ∧ a = -3 ∧ μ' = μ) ∨ (∃ K, K0 = some K ∧ a = 1 ∧ zRX (zRes D K) K0 K1 μ' ∧ zSame 0 56 μ μ')) := by
  refine Ct.of [some (zP 0), some (zI 0)] rfl (Nat.le_of_ble_eq_true rfl) (by decide +kernel) (fun Γ ad hO hR => ?_)
  refine zY.iload_n hO dX10_restore_0 rfl ?_
  refine zY.iconst hO dX10_restore_1 ?_
  refine zY.iconst hO dX10_restore_2 ?_
  refine zY.callS3iD (ct_X10_within ⟨by omega, by omega⟩ ⟨by omega, by omega⟩ ⟨by omega, by omega⟩) (by decide) zcal_X10_within zml_X10_70 (Nat.le_of_ble_eq_true rfl) rfl ⟨Nat.zero_le _, Nat.zero_le _⟩ hO dX10_restore_3 ?_
  refine zY.if_ne (tgt := 12) zr_b hO dX10_restore_6 (by decide) (fun c6 => ?_) (fun c6 => ?_)
  ·
    replace c6 := zb1.mp c6
    refine zY.aload_n hO dX10_restore_12 rfl ?_
    refine zY.iload_n hO dX10_restore_13 rfl ?_
    refine zY.callV1rD (ct_imageOf0) (by decide) zcal_X10_imageOf zml_X10_207 (by decide : 0 < 150) rfl rfl (Nat.le_of_ble_eq_true rfl) rfl ⟨Nat.zero_le _, Nat.zero_le _⟩ hO dX10_restore_14 ?_
    refine zY.aload_n hO dX10_restore_17 rfl ?_
    refine zY.getR zfl_X10_10 (by decide : 0 < 150) rfl rfl hO dX10_restore_18 ?_
    refine zY.callV1i (ct_giveTo_21 hX.2.2.2.1) (by decide) zcal_X2_giveTo zml_X10_214 (by decide : 21 < 150) rfl rfl (Nat.le_of_ble_eq_true rfl) rfl ⟨Nat.zero_le _, Nat.zero_le _⟩ hO dX10_restore_21 (fun aq μ2 hq1 => ?_)
    refine zY.if_eq (tgt := 31) (by rcases hq1 with ⟨_, hz, _⟩ | ⟨K, _, hz, _⟩ <;> (rw [hz]; exact ⟨by omega, by omega⟩)) hO dX10_restore_24 (by decide) (fun c24 => ?_) (fun c24 => ?_)
    ·
      refine zY.bipush hO dX10_restore_31 (by decide) ?_
      exact zY.iret rfl ⟨_, rfl, (by rcases hq1 with hz | ⟨K, _, hz, _⟩; exact Or.inl ⟨hz.1, rfl, hz.2.2⟩; omega)⟩ hR hO dX10_restore_33
    ·
      refine zY.iconst hO dX10_restore_27 ?_
      refine zY.goto (tgt := 33) hO dX10_restore_28 (by decide) ?_
      exact zY.iret rfl ⟨_, rfl, (by rcases hq1 with hz | ⟨K, hz1, hz2, hz3, hz4⟩; exact absurd hz.2.1 c24; exact Or.inr ⟨K, hz1, rfl, zRX_res hX (Or.inl hz1) hz3 hz4, hz4.wide (by decide) (by decide)⟩)⟩ hR hO dX10_restore_33
  ·
    exfalso
    replace c6 := zb0.mp c6
    omega

set_option maxRecDepth 100000 in
set_option maxHeartbeats 4000000 in
theorem ct_image1 {μ : zMem} {D : zBk} {K0 K1 : Option zBk} (hX : zRX D K0 K1 μ)  : Ci kX10_image 6 150 zSX [zP 0, zI 1] μ (fun a μ' => a = 1 ∧ zRX D K0 (some D) μ' ∧ zSame 0 56 μ μ') := by
  refine Ct.of [some (zP 0), some (zI 1)] rfl (Nat.le_of_ble_eq_true rfl) (by decide +kernel) (fun Γ ad hO hR => ?_)
  refine zY.iload_n hO dX10_image_0 rfl ?_
  refine zY.iconst hO dX10_image_1 ?_
  refine zY.iconst hO dX10_image_2 ?_
  refine zY.callS3iD (ct_X10_within ⟨by omega, by omega⟩ ⟨by omega, by omega⟩ ⟨by omega, by omega⟩) (by decide) zcal_X10_within zml_X10_70 (Nat.le_of_ble_eq_true rfl) rfl ⟨Nat.zero_le _, Nat.zero_le _⟩ hO dX10_image_3 ?_
  refine zY.if_ne (tgt := 12) zr_b hO dX10_image_6 (by decide) (fun c6 => ?_) (fun c6 => ?_)
  ·
    replace c6 := zb1.mp c6
    refine zY.aload_n hO dX10_image_12 rfl ?_
    refine zY.iload_n hO dX10_image_13 rfl ?_
    refine zY.callV1rD (ct_imageOf1) (by decide) zcal_X10_imageOf zml_X10_207 (by decide : 0 < 150) rfl rfl (Nat.le_of_ble_eq_true rfl) rfl ⟨Nat.zero_le _, Nat.zero_le _⟩ hO dX10_image_14 ?_
    refine zY.aload_n hO dX10_image_17 rfl ?_
    refine zY.getR zfl_X10_10 (by decide : 0 < 150) rfl rfl hO dX10_image_18 ?_
    refine zY.callV1v (ct_keep_39 hX.1 hX.2.1) (by decide) zcal_X2_keep zml_X10_211 (by decide : 39 < 150) rfl rfl (Nat.le_of_ble_eq_true rfl) rfl ⟨Nat.zero_le _, Nat.zero_le _⟩ hO dX10_image_21 (fun μ2 hq1 => ?_)
    refine zY.iconst hO dX10_image_24 ?_
    exact zY.iret rfl ⟨_, rfl, ⟨rfl, ⟨hX.1, hq1.2.shp hX.2.1 (by decide), hq1.2.pad hX.2.2.1 (by decide), hX.2.2.2.1.row (fun q h1 h2 => hq1.2 q (Or.inl (by omega))), hq1.1⟩, hq1.2.wide (by decide) (by decide)⟩⟩ hR hO dX10_image_25
  ·
    exfalso
    replace c6 := zb0.mp c6
    omega

set_option maxRecDepth 100000 in
set_option maxHeartbeats 4000000 in
theorem ct_restore1 {μ : zMem} {D : zBk} {K0 K1 : Option zBk} (hX : zRX D K0 K1 μ)  : Ci kX10_restore 6 150 zSX [zP 0, zI 1] μ (fun a μ' => (K1 = none ∧ a = -3 ∧ μ' = μ) ∨ (∃ K, K1 = some K ∧ a = 1 ∧ zRX (zRes D K) K0 K1 μ' ∧ zSame 0 56 μ μ')) := by
  refine Ct.of [some (zP 0), some (zI 1)] rfl (Nat.le_of_ble_eq_true rfl) (by decide +kernel) (fun Γ ad hO hR => ?_)
  refine zY.iload_n hO dX10_restore_0 rfl ?_
  refine zY.iconst hO dX10_restore_1 ?_
  refine zY.iconst hO dX10_restore_2 ?_
  refine zY.callS3iD (ct_X10_within ⟨by omega, by omega⟩ ⟨by omega, by omega⟩ ⟨by omega, by omega⟩) (by decide) zcal_X10_within zml_X10_70 (Nat.le_of_ble_eq_true rfl) rfl ⟨Nat.zero_le _, Nat.zero_le _⟩ hO dX10_restore_3 ?_
  refine zY.if_ne (tgt := 12) zr_b hO dX10_restore_6 (by decide) (fun c6 => ?_) (fun c6 => ?_)
  ·
    replace c6 := zb1.mp c6
    refine zY.aload_n hO dX10_restore_12 rfl ?_
    refine zY.iload_n hO dX10_restore_13 rfl ?_
    refine zY.callV1rD (ct_imageOf1) (by decide) zcal_X10_imageOf zml_X10_207 (by decide : 0 < 150) rfl rfl (Nat.le_of_ble_eq_true rfl) rfl ⟨Nat.zero_le _, Nat.zero_le _⟩ hO dX10_restore_14 ?_
    refine zY.aload_n hO dX10_restore_17 rfl ?_
    refine zY.getR zfl_X10_10 (by decide : 0 < 150) rfl rfl hO dX10_restore_18 ?_
    refine zY.callV1i (ct_giveTo_39 hX.2.2.2.2) (by decide) zcal_X2_giveTo zml_X10_214 (by decide : 39 < 150) rfl rfl (Nat.le_of_ble_eq_true rfl) rfl ⟨Nat.zero_le _, Nat.zero_le _⟩ hO dX10_restore_21 (fun aq μ2 hq1 => ?_)
    refine zY.if_eq (tgt := 31) (by rcases hq1 with ⟨_, hz, _⟩ | ⟨K, _, hz, _⟩ <;> (rw [hz]; exact ⟨by omega, by omega⟩)) hO dX10_restore_24 (by decide) (fun c24 => ?_) (fun c24 => ?_)
    ·
      refine zY.bipush hO dX10_restore_31 (by decide) ?_
      exact zY.iret rfl ⟨_, rfl, (by rcases hq1 with hz | ⟨K, _, hz, _⟩; exact Or.inl ⟨hz.1, rfl, hz.2.2⟩; omega)⟩ hR hO dX10_restore_33
    ·
      refine zY.iconst hO dX10_restore_27 ?_
      refine zY.goto (tgt := 33) hO dX10_restore_28 (by decide) ?_
      exact zY.iret rfl ⟨_, rfl, (by rcases hq1 with hz | ⟨K, hz1, hz2, hz3, hz4⟩; exact absurd hz.2.1 c24; exact Or.inr ⟨K, hz1, rfl, zRX_res hX (Or.inr hz1) hz3 hz4, hz4.wide (by decide) (by decide)⟩)⟩ hR hO dX10_restore_33
  ·
    exfalso
    replace c6 := zb0.mp c6
    omega

set_option maxRecDepth 100000 in
set_option maxHeartbeats 4000000 in
theorem ct_imageN {μ : zMem} {D : zBk} {K0 K1 : Option zBk} (hX : zRX D K0 K1 μ) {v : Int} (hv : zr v) (hn : ¬ (0 ≤ v ∧ v ≤ 1)) : Ci kX10_image 6 150 zSX [zP 0, zI v] μ (fun a μ' => a = -2 ∧ μ' = μ) := by
  refine Ct.of [some (zP 0), some (zI v)] rfl (Nat.le_of_ble_eq_true rfl) (by decide +kernel) (fun Γ ad hO hR => ?_)
  refine zY.iload_n hO dX10_image_0 rfl ?_
  refine zY.iconst hO dX10_image_1 ?_
  refine zY.iconst hO dX10_image_2 ?_
  refine zY.callS3iD (ct_X10_within hv ⟨by omega, by omega⟩ ⟨by omega, by omega⟩) (by decide) zcal_X10_within zml_X10_70 (Nat.le_of_ble_eq_true rfl) rfl ⟨Nat.zero_le _, Nat.zero_le _⟩ hO dX10_image_3 ?_
  refine zY.if_ne (tgt := 12) zr_b hO dX10_image_6 (by decide) (fun c6 => ?_) (fun c6 => ?_)
  ·
    exfalso
    replace c6 := zb1.mp c6
    exact hn c6
  ·
    replace c6 := zb0.mp c6
    refine zY.bipush hO dX10_image_9 (by decide) ?_
    exact zY.iret rfl ⟨_, rfl, ⟨rfl, rfl⟩⟩ hR hO dX10_image_11

set_option maxRecDepth 100000 in
set_option maxHeartbeats 4000000 in
theorem ct_restoreN {μ : zMem} {D : zBk} {K0 K1 : Option zBk} (hX : zRX D K0 K1 μ) {v : Int} (hv : zr v) (hn : ¬ (0 ≤ v ∧ v ≤ 1)) : Ci kX10_restore 6 150 zSX [zP 0, zI v] μ (fun a μ' => a = -2 ∧ μ' = μ) := by
  refine Ct.of [some (zP 0), some (zI v)] rfl (Nat.le_of_ble_eq_true rfl) (by decide +kernel) (fun Γ ad hO hR => ?_)
  refine zY.iload_n hO dX10_restore_0 rfl ?_
  refine zY.iconst hO dX10_restore_1 ?_
  refine zY.iconst hO dX10_restore_2 ?_
  refine zY.callS3iD (ct_X10_within hv ⟨by omega, by omega⟩ ⟨by omega, by omega⟩) (by decide) zcal_X10_within zml_X10_70 (Nat.le_of_ble_eq_true rfl) rfl ⟨Nat.zero_le _, Nat.zero_le _⟩ hO dX10_restore_3 ?_
  refine zY.if_ne (tgt := 12) zr_b hO dX10_restore_6 (by decide) (fun c6 => ?_) (fun c6 => ?_)
  ·
    exfalso
    replace c6 := zb1.mp c6
    exact hn c6
  ·
    replace c6 := zb0.mp c6
    refine zY.bipush hO dX10_restore_9 (by decide) ?_
    exact zY.iret rfl ⟨_, rfl, ⟨rfl, rfl⟩⟩ hR hO dX10_restore_11
