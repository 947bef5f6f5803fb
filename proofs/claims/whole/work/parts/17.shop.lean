/-! Shop: spell, compose, known; copies; Image -/
theorem zrat_at {f : Nat → Int} {N k : Nat} {x : Int} (h : x = (k : Int)) (hk : k < N) : zrat f N x = f k := by rw [h, zrat_in hk]
theorem zcm_mono {D : zBk} {w o so k : Nat} (h : zcm D w o so k = false) : ∀ n, k ≤ n → zcm D w o so n = false
  | 0, hn => by rw [show (0 : Nat) = k by omega]; exact h
  | n + 1, hn => by
    by_cases hk : k = n + 1
    · rw [← hk]; exact h
    · simp only [zcm]; rw [zcm_mono h n (by omega)]; rfl
theorem zknown_mono {D : zBk} {w so k : Nat} (h : zknown D w so k = false) : ∀ n, k ≤ n → zknown D w so n = false
  | 0, hn => by rw [show (0 : Nat) = k by omega]; exact h
  | n + 1, hn => by
    by_cases hk : k = n + 1
    · rw [← hk]; exact h
    · simp only [zknown]; rw [zknown_mono h n (by omega)]; rfl

set_option maxRecDepth 100000 in
set_option maxHeartbeats 4000000 in
theorem ct_X6_spell {μ : zMem} {D : zBk} (hW : zWF D) (hp : zPad D μ) {w : Nat} (hw : w < 10) : Cv kX6_spell 4 150 zSX [zP 1, zI (w : Int), zP 18] μ (fun μ' => μ' = zrow (zrow μ 9 (fun j => if j = w then (zN D : Int) else μ 9 j)) 7 (fun j => if 5 * w ≤ j ∧ j < 5 * w + 5 then D 9 (j - 5 * w) - 97 else μ 7 j)) := by
  refine Ct.of [some (zP 1), some (zI (w : Int)), some (zP 18), none] rfl (Nat.le_of_ble_eq_true rfl) (by decide +kernel) (fun Γ ad hO hR => ?_)
  have hn := zN_eq hW
  refine zY.aload_n hO dX6_spell_0 rfl ?_
  refine zY.getR zfl_X6_26 (by decide : 1 < 150) rfl rfl hO dX6_spell_1 ?_
  refine zY.iload_n hO dX6_spell_4 rfl ?_
  refine zY.aload_n hO dX6_spell_5 rfl ?_
  refine zY.callV0iD (ct_X3_count) (by decide) zcal_X3_count zml_X6_55 (by decide : 18 < 150) rfl rfl (Nat.le_of_ble_eq_true rfl) rfl ⟨Nat.zero_le _, Nat.zero_le _⟩ hO dX6_spell_6 ?_
  refine zY.as (b := (zN D : Int)) (hp.2.trans hn.1) ?_
  refine zY.as2 (b := ((w : Nat) : Int)) (by omega) ?_
  refine zY.callV2vD (ct_putN zrw_8 (j := w) (by omega)) (by decide) zcal_X5_put zml_X6_41 (by decide : 8 < 150) rfl rfl (Nat.le_of_ble_eq_true rfl) rfl ⟨Nat.zero_le _, Nat.zero_le _⟩ hO dX6_spell_9 ?_
  refine zY.iconst hO dX6_spell_12 ?_
  refine zY.istore3 (zc1_P _) hO dX6_spell_13 ?_
  have L14 : ∀ i : Nat, i ≤ 5 → ∀ μ1 : zMem, μ1 = zrow (zrow μ 9 (fun j => if j = w then (zN D : Int) else μ 9 j)) 7 (fun j => if 5 * w ≤ j ∧ j < 5 * w + i then D 9 (j - 5 * w) - 97 else μ 7 j) → zY Γ (150, zSX, ad, 0, 0) 14 [some (zP 1), some (zI (w : Int)), some (zP 18), some (zI (i : Int))] [] μ1 := by
    refine zdown (5) (fun i hi_i ih14 => ?_)
    intro μ1 hI
    refine zY.iload_n hO dX6_spell_14 rfl ?_
    refine zY.iconst hO dX6_spell_15 ?_
    refine zY.icmp_ge (tgt := 42) ⟨by omega, by omega⟩ ⟨by omega, by omega⟩ hO dX6_spell_16 (by decide) (fun c16 => ?_) (fun c16 => ?_)
    ·
      exact zY.vret rfl ⟨rfl, (by rw [hI, show i = 5 by omega])⟩ hR hO dX6_spell_42
    ·
      refine zY.aload_n hO dX6_spell_19 rfl ?_
      refine zY.getR zfl_X6_23 (by decide : 1 < 150) rfl rfl hO dX6_spell_20 ?_
      refine zY.iload_n hO dX6_spell_23 rfl ?_
      refine zY.iconst hO dX6_spell_24 ?_
      refine zY.imul hO dX6_spell_25 ?_
      refine zY.iload_n hO dX6_spell_26 rfl ?_
      refine zY.iadd hO dX6_spell_27 ?_
      refine zY.aload_n hO dX6_spell_28 rfl ?_
      refine zY.iload_n hO dX6_spell_29 rfl ?_
      refine zY.callV1iD (ct_X3_letterAt (by omega)) (by decide) zcal_X3_letterAt zml_X6_61 (by decide : 18 < 150) rfl rfl (Nat.le_of_ble_eq_true rfl) rfl ⟨Nat.zero_le _, Nat.zero_le _⟩ hO dX6_spell_30 ?_
      refine zY.as (b := D 9 i - 97) (by rw [hI, zrow_ne (by decide), zrow_ne (by decide), hp.1 i (by omega)]) ?_
      refine zY.as2 (b := ((5 * w + i : Nat) : Int)) (by omega) ?_
      refine zY.callV2vD (ct_putN zrw_6 (j := 5 * w + i) (by omega)) (by decide) zcal_X5_put zml_X6_41 (by decide : 6 < 150) rfl rfl (Nat.le_of_ble_eq_true rfl) rfl ⟨Nat.zero_le _, Nat.zero_le _⟩ hO dX6_spell_33 ?_
      refine zY.iinc3 ((i + 1 : Nat) : Int) (by omega) (zc1_P _) hO dX6_spell_36 ?_
      refine zY.goto (tgt := 14) hO dX6_spell_39 (by decide) ?_
      exact ih14 (by omega) _ (by rw [hI, zwr_row]; refine zrow_congr (fun j => ?_); by_cases hji : j = 5 * w + i; (subst hji; rw [if_pos rfl, if_pos ⟨by omega, by omega⟩, show 5 * w + i - 5 * w = i by omega]); (rw [if_neg hji]; exact zif (by omega)))
  exact L14 0 (by omega) _ (by rw [zwr_eq_row, zrow_self (q := 7)]; intro j; rw [if_neg (by omega), zrow_ne (by decide)])

set_option maxRecDepth 100000 in
set_option maxHeartbeats 4000000 in
theorem ct_X6_compose {μ : zMem} {D : zBk} (hW : zWF D) (hp : zPad D μ) {s : Nat} (hs : s < 6) : Cv kX6_compose 4 150 zSX [zP 1, zI (s : Int), zP 18] μ (fun μ' => μ' = zrow (zrow μ 15 (fun j => if j = s then (zN D : Int) else μ 15 j)) 13 (fun j => if 6 * s ≤ j ∧ j < 6 * s + 6 then D 9 (j - 6 * s) - 48 else μ 13 j)) := by
  refine Ct.of [some (zP 1), some (zI (s : Int)), some (zP 18), none] rfl (Nat.le_of_ble_eq_true rfl) (by decide +kernel) (fun Γ ad hO hR => ?_)
  have hn := zN_eq hW
  refine zY.aload_n hO dX6_compose_0 rfl ?_
  refine zY.getR zfl_X6_35 (by decide : 1 < 150) rfl rfl hO dX6_compose_1 ?_
  refine zY.iload_n hO dX6_compose_4 rfl ?_
  refine zY.aload_n hO dX6_compose_5 rfl ?_
  refine zY.callV0iD (ct_X3_count) (by decide) zcal_X3_count zml_X6_55 (by decide : 18 < 150) rfl rfl (Nat.le_of_ble_eq_true rfl) rfl ⟨Nat.zero_le _, Nat.zero_le _⟩ hO dX6_compose_6 ?_
  refine zY.as (b := (zN D : Int)) (hp.2.trans hn.1) ?_
  refine zY.as2 (b := ((s : Nat) : Int)) (by omega) ?_
  refine zY.callV2vD (ct_putN zrw_14 (j := s) (by omega)) (by decide) zcal_X5_put zml_X6_41 (by decide : 14 < 150) rfl rfl (Nat.le_of_ble_eq_true rfl) rfl ⟨Nat.zero_le _, Nat.zero_le _⟩ hO dX6_compose_9 ?_
  refine zY.iconst hO dX6_compose_12 ?_
  refine zY.istore3 (zc1_P _) hO dX6_compose_13 ?_
  have L14 : ∀ i : Nat, i ≤ 6 → ∀ μ1 : zMem, μ1 = zrow (zrow μ 15 (fun j => if j = s then (zN D : Int) else μ 15 j)) 13 (fun j => if 6 * s ≤ j ∧ j < 6 * s + i then D 9 (j - 6 * s) - 48 else μ 13 j) → zY Γ (150, zSX, ad, 0, 0) 14 [some (zP 1), some (zI (s : Int)), some (zP 18), some (zI (i : Int))] [] μ1 := by
    refine zdown (6) (fun i hi_i ih14 => ?_)
    intro μ1 hI
    refine zY.iload_n hO dX6_compose_14 rfl ?_
    refine zY.bipush hO dX6_compose_15 (by decide) ?_
    refine zY.icmp_ge (tgt := 44) ⟨by omega, by omega⟩ ⟨by omega, by omega⟩ hO dX6_compose_17 (by decide) (fun c17 => ?_) (fun c17 => ?_)
    ·
      exact zY.vret rfl ⟨rfl, (by rw [hI, show i = 6 by omega])⟩ hR hO dX6_compose_44
    ·
      refine zY.aload_n hO dX6_compose_20 rfl ?_
      refine zY.getR zfl_X6_32 (by decide : 1 < 150) rfl rfl hO dX6_compose_21 ?_
      refine zY.iload_n hO dX6_compose_24 rfl ?_
      refine zY.bipush hO dX6_compose_25 (by decide) ?_
      refine zY.imul hO dX6_compose_27 ?_
      refine zY.iload_n hO dX6_compose_28 rfl ?_
      refine zY.iadd hO dX6_compose_29 ?_
      refine zY.aload_n hO dX6_compose_30 rfl ?_
      refine zY.iload_n hO dX6_compose_31 rfl ?_
      refine zY.callV1iD (ct_X3_digitAt (by omega)) (by decide) zcal_X3_digitAt zml_X6_65 (by decide : 18 < 150) rfl rfl (Nat.le_of_ble_eq_true rfl) rfl ⟨Nat.zero_le _, Nat.zero_le _⟩ hO dX6_compose_32 ?_
      refine zY.as (b := D 9 i - 48) (by rw [hI, zrow_ne (by decide), zrow_ne (by decide), hp.1 i (by omega)]) ?_
      refine zY.as2 (b := ((6 * s + i : Nat) : Int)) (by omega) ?_
      refine zY.callV2vD (ct_putN zrw_12 (j := 6 * s + i) (by omega)) (by decide) zcal_X5_put zml_X6_41 (by decide : 12 < 150) rfl rfl (Nat.le_of_ble_eq_true rfl) rfl ⟨Nat.zero_le _, Nat.zero_le _⟩ hO dX6_compose_35 ?_
      refine zY.iinc3 ((i + 1 : Nat) : Int) (by omega) (zc1_P _) hO dX6_compose_38 ?_
      refine zY.goto (tgt := 14) hO dX6_compose_41 (by decide) ?_
      exact ih14 (by omega) _ (by rw [hI, zwr_row]; refine zrow_congr (fun j => ?_); by_cases hji : j = 6 * s + i; (subst hji; rw [if_pos rfl, if_pos ⟨by omega, by omega⟩, show 6 * s + i - 6 * s = i by omega]); (rw [if_neg hji]; exact zif (by omega)))
  exact L14 0 (by omega) _ (by rw [zwr_eq_row, zrow_self (q := 13)]; intro j; rw [if_neg (by omega), zrow_ne (by decide)])

set_option maxRecDepth 100000 in
set_option maxHeartbeats 4000000 in
theorem ct_X6_couldBeMeant {μ : zMem} {D : zBk} (hW : zWF D) (hS : zShp 1 D μ) {w o so : Nat} (hw : w < 10) (ho : o < 10) (hso : so < 64) : Ci kX6_couldBeMeant 4 150 zSX [zP 1, zI (w : Int), zI (o : Int), zI (so : Int)] μ (fun a μ' => a = (if zmeant D w o so = true then 1 else 0) ∧ μ' = μ) := by
  refine Ct.of [some (zP 1), some (zI (w : Int)), some (zI (o : Int)), some (zI (so : Int)), none, none, none, none] rfl (Nat.le_of_ble_eq_true rfl) (by decide +kernel) (fun Γ ad hO hR => ?_)
  have hww := hW.1 w hw
  have hoo := hW.1 o ho
  refine zY.aload_n hO dX6_couldBeMeant_0 rfl ?_
  refine zY.getR zfl_X6_26 (by decide : 1 < 150) rfl rfl hO dX6_couldBeMeant_1 ?_
  refine zY.iload_n hO dX6_couldBeMeant_4 rfl ?_
  refine zY.as (b := ((w : Nat) : Int)) (by omega) ?_
  refine zY.callV1iD (ct_atN zrw_8 (j := w) (by omega)) (by decide) zcal_X5_at zml_X6_68 (by decide : 8 < 150) rfl rfl (Nat.le_of_ble_eq_true rfl) rfl ⟨Nat.zero_le _, Nat.zero_le _⟩ hO dX6_couldBeMeant_5 ?_
  refine zY.as (b := D 1 w) (hS.1 w hw).1 ?_
  refine zY.aload_n hO dX6_couldBeMeant_8 rfl ?_
  refine zY.getR zfl_X6_26 (by decide : 1 < 150) rfl rfl hO dX6_couldBeMeant_9 ?_
  refine zY.iload_n hO dX6_couldBeMeant_12 rfl ?_
  refine zY.as (b := ((o : Nat) : Int)) (by omega) ?_
  refine zY.callV1iD (ct_atN zrw_8 (j := o) (by omega)) (by decide) zcal_X5_at zml_X6_68 (by decide : 8 < 150) rfl rfl (Nat.le_of_ble_eq_true rfl) rfl ⟨Nat.zero_le _, Nat.zero_le _⟩ hO dX6_couldBeMeant_13 ?_
  refine zY.as (b := D 1 o) (hS.1 o ho).1 ?_
  refine zY.icmp_eq (tgt := 21) ⟨by omega, by omega⟩ ⟨by omega, by omega⟩ hO dX6_couldBeMeant_16 (by decide) (fun c16 => ?_) (fun c16 => ?_)
  ·
    refine zY.iconst hO dX6_couldBeMeant_21 ?_
    refine zY.istore4 (zc1_I _) hO dX6_couldBeMeant_22 ?_
    refine zY.iconst hO dX6_couldBeMeant_24 ?_
    refine zY.istore5 (zc1_I _) hO dX6_couldBeMeant_25 ?_
    have L27 : ∀ i : Nat, i ≤ (D 1 w).toNat → zcm D w o so i = true → zY Γ (150, zSX, ad, 0, 0) 27 [some (zP 1), some (zI (w : Int)), some (zI (o : Int)), some (zI (so : Int)), some (zI (if zsm D w o i = true then 1 else 0)), some (zI (i : Int)), none, none] [] μ := by
      refine zdown ((D 1 w).toNat) (fun i hi_i ih27 => ?_)
      intro hcm
      refine zY.iload hO dX6_couldBeMeant_27 rfl ?_
      refine zY.aload_n hO dX6_couldBeMeant_29 rfl ?_
      refine zY.getR zfl_X6_26 (by decide : 1 < 150) rfl rfl hO dX6_couldBeMeant_30 ?_
      refine zY.iload_n hO dX6_couldBeMeant_33 rfl ?_
      refine zY.as (b := ((w : Nat) : Int)) (by omega) ?_
      refine zY.callV1iD (ct_atN zrw_8 (j := w) (by omega)) (by decide) zcal_X5_at zml_X6_68 (by decide : 8 < 150) rfl rfl (Nat.le_of_ble_eq_true rfl) rfl ⟨Nat.zero_le _, Nat.zero_le _⟩ hO dX6_couldBeMeant_34 ?_
      refine zY.as (b := D 1 w) (hS.1 w hw).1 ?_
      refine zY.icmp_ge (tgt := 94) ⟨by omega, by omega⟩ ⟨by omega, by omega⟩ hO dX6_couldBeMeant_37 (by decide) (fun c37 => ?_) (fun c37 => ?_)
      ·
        have hiw : i = (D 1 w).toNat := by omega
        subst hiw
        refine zY.iload hO dX6_couldBeMeant_94 rfl ?_
        refine zY.if_ne (tgt := 103) zr_b hO dX6_couldBeMeant_96 (by decide) (fun c96 => ?_) (fun c96 => ?_)
        ·
          replace c96 := zb1.mp c96
          refine zY.iconst hO dX6_couldBeMeant_103 ?_
          exact zY.zret (by omega) rfl ⟨_, rfl, ⟨by unfold zmeant; rw [decide_eq_true c16, hcm, c96]; rfl, rfl⟩⟩ hR hO dX6_couldBeMeant_104
        ·
          replace c96 := zb0.mp c96
          refine zY.iconst hO dX6_couldBeMeant_99 ?_
          refine zY.goto (tgt := 104) hO dX6_couldBeMeant_100 (by decide) ?_
          exact zY.zret (by omega) rfl ⟨_, rfl, ⟨by unfold zmeant; rw [decide_eq_true c16, hcm, eq_false_of_ne_true c96]; rfl, rfl⟩⟩ hR hO dX6_couldBeMeant_104
      ·
        refine zY.aload_n hO dX6_couldBeMeant_40 rfl ?_
        refine zY.iload_n hO dX6_couldBeMeant_41 rfl ?_
        refine zY.iload hO dX6_couldBeMeant_42 rfl ?_
        refine zY.callV2iD (ct_X6_letterOf hw (by omega)) (by decide) zcal_X6_letterOf zml_X6_83 (by decide : 1 < 150) rfl rfl (Nat.le_of_ble_eq_true rfl) rfl ⟨Nat.zero_le _, Nat.zero_le _⟩ hO dX6_couldBeMeant_44 ?_
        have hlw := hww.2.2.2.2.2 i (by omega)
        have hlo := hoo.2.2.2.2.2 i (by omega)
        refine zY.as (b := D 0 (5 * w + i)) ((hS.1 w hw).2.2 i (by omega)) ?_
        refine zY.istore6 (zc1_I _) hO dX6_couldBeMeant_47 ?_
        refine zY.aload_n hO dX6_couldBeMeant_49 rfl ?_
        refine zY.iload_n hO dX6_couldBeMeant_50 rfl ?_
        refine zY.iload hO dX6_couldBeMeant_51 rfl ?_
        refine zY.callV2iD (ct_X6_letterOf ho (by omega)) (by decide) zcal_X6_letterOf zml_X6_83 (by decide : 1 < 150) rfl rfl (Nat.le_of_ble_eq_true rfl) rfl ⟨Nat.zero_le _, Nat.zero_le _⟩ hO dX6_couldBeMeant_53 ?_
        refine zY.as (b := D 0 (5 * o + i)) ((hS.1 o ho).2.2 i (by omega)) ?_
        refine zY.istore7 (zc1_I _) hO dX6_couldBeMeant_56 ?_
        refine zY.iload hO dX6_couldBeMeant_58 rfl ?_
        refine zY.iload hO dX6_couldBeMeant_60 rfl ?_
        refine zY.icmp_eq (tgt := 88) ⟨by omega, by omega⟩ ⟨by omega, by omega⟩ hO dX6_couldBeMeant_62 (by decide) (fun c62 => ?_) (fun c62 => ?_)
        ·
          refine zY.iinc5 ((i + 1 : Nat) : Int) (by omega) (zc1_I _) hO dX6_couldBeMeant_88 ?_
          refine zY.goto (tgt := 27) hO dX6_couldBeMeant_91 (by decide) ?_
          refine zY.none6 ?_
          refine zY.none7 ?_
          have hin := ih27 (by omega) (by simp only [zcm]; rw [hcm, decide_eq_true c62]; simp)
          rw [show zsm D w o (i + 1) = zsm D w o i from (by simp only [zsm]; rw [decide_eq_true c62]; simp)] at hin
          exact hin
        ·
          obtain ⟨xq, hxq⟩ : ∃ xq : Nat, D 0 (5 * w + i) = (xq : Int) := ⟨(D 0 (5 * w + i)).toNat, by omega⟩
          obtain ⟨yq, hyq⟩ : ∃ yq : Nat, D 0 (5 * o + i) = (yq : Int) := ⟨(D 0 (5 * o + i)).toNat, by omega⟩
          refine zY.iconst hO dX6_couldBeMeant_65 ?_
          refine zY.istore4 (zc1_I _) hO dX6_couldBeMeant_66 ?_
          refine zY.iload_n hO dX6_couldBeMeant_68 rfl ?_
          refine zY.iload hO dX6_couldBeMeant_69 rfl ?_
          refine zY.as hxq ?_
          refine zY.callSN2iD (ct_X10_has hso (by omega)) (by decide) zcal_X10_has zmn_X6_86 (Nat.le_of_ble_eq_true rfl) rfl ⟨Nat.zero_le _, Nat.zero_le _⟩ hO dX6_couldBeMeant_71 ?_
          refine zY.if_eq (tgt := 86) zr_b hO dX6_couldBeMeant_74 (by decide) (fun c74 => ?_) (fun c74 => ?_)
          ·
            replace c74 := zb0.mp c74
            refine zY.iconst hO dX6_couldBeMeant_86 ?_
            exact zY.zret (Or.inl rfl) rfl ⟨_, rfl, ⟨by
              rw [if_neg]
              have hf : zcm D w o so (i + 1) = false := by
                simp only [zcm]
                rw [hcm, decide_eq_false c62, hxq, hyq, Int.toNat_natCast, Int.toNat_natCast, eq_false_of_ne_true c74]
                simp
              unfold zmeant
              rw [zcm_mono hf _ (by omega)]
              simp, rfl⟩⟩ hR hO dX6_couldBeMeant_87
          ·
            replace c74 := zb1.mp c74
            refine zY.iload_n hO dX6_couldBeMeant_77 rfl ?_
            refine zY.iload hO dX6_couldBeMeant_78 rfl ?_
            refine zY.as hyq ?_
            refine zY.callSN2iD (ct_X10_has hso (by omega)) (by decide) zcal_X10_has zmn_X6_86 (Nat.le_of_ble_eq_true rfl) rfl ⟨Nat.zero_le _, Nat.zero_le _⟩ hO dX6_couldBeMeant_80 ?_
            refine zY.if_ne (tgt := 88) zr_b hO dX6_couldBeMeant_83 (by decide) (fun c83 => ?_) (fun c83 => ?_)
            ·
              replace c83 := zb1.mp c83
              refine zY.iinc5 ((i + 1 : Nat) : Int) (by omega) (zc1_I _) hO dX6_couldBeMeant_88 ?_
              refine zY.goto (tgt := 27) hO dX6_couldBeMeant_91 (by decide) ?_
              refine zY.none6 ?_
              refine zY.none7 ?_
              have hin := ih27 (by omega) (by simp only [zcm]; rw [hcm, hxq, hyq, Int.toNat_natCast, Int.toNat_natCast, c74, c83]; simp)
              rw [show zsm D w o (i + 1) = false from (by simp only [zsm]; rw [decide_eq_false c62]; simp)] at hin
              exact hin
            ·
              replace c83 := zb0.mp c83
              refine zY.iconst hO dX6_couldBeMeant_86 ?_
              exact zY.zret (Or.inl rfl) rfl ⟨_, rfl, ⟨by
                rw [if_neg]
                have hf : zcm D w o so (i + 1) = false := by
                  simp only [zcm]
                  rw [hcm, decide_eq_false c62, hxq, hyq, Int.toNat_natCast, Int.toNat_natCast, eq_false_of_ne_true c83]
                  simp
                unfold zmeant
                rw [zcm_mono hf _ (by omega)]
                simp, rfl⟩⟩ hR hO dX6_couldBeMeant_87
    exact L27 0 (by omega) rfl
  ·
    refine zY.iconst hO dX6_couldBeMeant_19 ?_
    exact zY.zret (Or.inl rfl) rfl ⟨_, rfl, ⟨by rw [if_neg]; unfold zmeant; rw [decide_eq_false c16]; simp, rfl⟩⟩ hR hO dX6_couldBeMeant_20

set_option maxRecDepth 100000 in
set_option maxHeartbeats 4000000 in
theorem ct_X6_isClear {μ : zMem} {D : zBk} (hW : zWF D) (hS : zShp 1 D μ) {w so : Nat} (hw : w < 10) (hso : so < 64) : Ci kX6_isClear 5 150 zSX [zP 1, zI (w : Int), zI (so : Int)] μ (fun a μ' => a = (if zknown D w so 10 = true then 1 else 0) ∧ μ' = μ) := by
  refine Ct.of [some (zP 1), some (zI (w : Int)), some (zI (so : Int)), none] rfl (Nat.le_of_ble_eq_true rfl) (by decide +kernel) (fun Γ ad hO hR => ?_)
  refine zY.iconst hO dX6_isClear_0 ?_
  refine zY.istore3 (zc1_I _) hO dX6_isClear_1 ?_
  have L2 : ∀ i : Nat, i ≤ 10 → zknown D w so i = true → zY Γ (150, zSX, ad, 0, 0) 2 [some (zP 1), some (zI (w : Int)), some (zI (so : Int)), some (zI (i : Int))] [] μ := by
    refine zdown (10) (fun i hi_i ih2 => ?_)
    intro hkn
    refine zY.iload_n hO dX6_isClear_2 rfl ?_
    refine zY.bipush hO dX6_isClear_3 (by decide) ?_
    refine zY.icmp_ge (tgt := 26) ⟨by omega, by omega⟩ ⟨by omega, by omega⟩ hO dX6_isClear_5 (by decide) (fun c5 => ?_) (fun c5 => ?_)
    ·
      refine zY.iconst hO dX6_isClear_26 ?_
      exact zY.zret (Or.inr rfl) rfl ⟨_, rfl, ⟨by rw [show (10 : Nat) = i by omega, if_pos hkn], rfl⟩⟩ hR hO dX6_isClear_27
    ·
      refine zY.aload_n hO dX6_isClear_8 rfl ?_
      refine zY.iload_n hO dX6_isClear_9 rfl ?_
      refine zY.iload_n hO dX6_isClear_10 rfl ?_
      refine zY.iload_n hO dX6_isClear_11 rfl ?_
      refine zY.callV3iD (ct_X6_couldBeMeant hW hS hw (by omega) hso) (by decide) zcal_X6_couldBeMeant zml_X6_71 (by decide : 1 < 150) rfl rfl (Nat.le_of_ble_eq_true rfl) rfl ⟨Nat.zero_le _, Nat.zero_le _⟩ hO dX6_isClear_12 ?_
      refine zY.if_eq (tgt := 20) zr_b hO dX6_isClear_15 (by decide) (fun c15 => ?_) (fun c15 => ?_)
      ·
        replace c15 := zb0.mp c15
        refine zY.iinc3 ((i + 1 : Nat) : Int) (by omega) (zc1_I _) hO dX6_isClear_20 ?_
        refine zY.goto (tgt := 2) hO dX6_isClear_23 (by decide) ?_
        exact ih2 (by omega) (by simp only [zknown]; rw [hkn, eq_false_of_ne_true c15]; rfl)
      ·
        replace c15 := zb1.mp c15
        refine zY.iconst hO dX6_isClear_18 ?_
        exact zY.zret (Or.inl rfl) rfl ⟨_, rfl, ⟨by rw [if_neg]; rw [zknown_mono (k := i + 1) (by simp only [zknown]; rw [c15]; simp) 10 (by omega)]; simp, rfl⟩⟩ hR hO dX6_isClear_19
  exact L2 0 (by omega) rfl

set_option maxRecDepth 100000 in
set_option maxHeartbeats 4000000 in
theorem ct_X6_clearPlaces {μ : zMem} {D : zBk} (hW : zWF D) (hS : zShp 1 D μ) {s so : Nat} (hs : s < 6) (hso : so < 64) : Ci kX6_clearPlaces 6 150 zSX [zP 1, zI (s : Int), zI (so : Int)] μ (fun a μ' => a = zkof D s so (D 4 s).toNat ∧ μ' = μ) := by
  refine Ct.of [some (zP 1), some (zI (s : Int)), some (zI (so : Int)), none, none] rfl (Nat.le_of_ble_eq_true rfl) (by decide +kernel) (fun Γ ad hO hR => ?_)
  have hsz := hW.2.1 s hs
  refine zY.iconst hO dX6_clearPlaces_0 ?_
  refine zY.istore3 (zc1_I _) hO dX6_clearPlaces_1 ?_
  refine zY.iconst hO dX6_clearPlaces_2 ?_
  refine zY.istore4 (zc1_I _) hO dX6_clearPlaces_3 ?_
  have L5 : ∀ i : Nat, i ≤ (D 4 s).toNat → zY Γ (150, zSX, ad, 0, 0) 5 [some (zP 1), some (zI (s : Int)), some (zI (so : Int)), some (zI (zkof D s so i)), some (zI (i : Int))] [] μ := by
    refine zdown ((D 4 s).toNat) (fun i hi_i ih5 => ?_)
    refine zY.iload hO dX6_clearPlaces_5 rfl ?_
    refine zY.aload_n hO dX6_clearPlaces_7 rfl ?_
    refine zY.getR zfl_X6_35 (by decide : 1 < 150) rfl rfl hO dX6_clearPlaces_8 ?_
    refine zY.iload_n hO dX6_clearPlaces_11 rfl ?_
    refine zY.as (b := ((s : Nat) : Int)) (by omega) ?_
    refine zY.callV1iD (ct_atN zrw_14 (j := s) (by omega)) (by decide) zcal_X5_at zml_X6_68 (by decide : 14 < 150) rfl rfl (Nat.le_of_ble_eq_true rfl) rfl ⟨Nat.zero_le _, Nat.zero_le _⟩ hO dX6_clearPlaces_12 ?_
    refine zY.as (b := D 4 s) (hS.2.1 s hs).1 ?_
    refine zY.icmp_ge (tgt := 42) ⟨by omega, by omega⟩ ⟨by omega, by omega⟩ hO dX6_clearPlaces_15 (by decide) (fun c15 => ?_) (fun c15 => ?_)
    ·
      refine zY.iload_n hO dX6_clearPlaces_42 rfl ?_
      exact zY.iret rfl ⟨_, rfl, ⟨by rw [show i = (D 4 s).toNat by omega], rfl⟩⟩ hR hO dX6_clearPlaces_43
    ·
      refine zY.aload_n hO dX6_clearPlaces_18 rfl ?_
      refine zY.aload_n hO dX6_clearPlaces_19 rfl ?_
      refine zY.iload_n hO dX6_clearPlaces_20 rfl ?_
      refine zY.iload hO dX6_clearPlaces_21 rfl ?_
      refine zY.callV2iD (ct_X6_wordAt hs (by omega)) (by decide) zcal_X6_wordAt zml_X6_75 (by decide : 1 < 150) rfl rfl (Nat.le_of_ble_eq_true rfl) rfl ⟨Nat.zero_le _, Nat.zero_le _⟩ hO dX6_clearPlaces_23 ?_
      have hwr := hsz.2.2.2.2.2.2.2.2.2 i (by omega)
      obtain ⟨wq, hwq⟩ : ∃ wq : Nat, D 3 (6 * s + i) = (wq : Int) := ⟨(D 3 (6 * s + i)).toNat, by omega⟩
      refine zY.as (b := (wq : Int)) (((hS.2.1 s hs).2.2.2.2 i (by omega)).trans hwq) ?_
      refine zY.iload_n hO dX6_clearPlaces_26 rfl ?_
      refine zY.callV2iD (ct_X6_isClear hW hS (by omega) hso) (by decide) zcal_X6_isClear zml_X6_79 (by decide : 1 < 150) rfl rfl (Nat.le_of_ble_eq_true rfl) rfl ⟨Nat.zero_le _, Nat.zero_le _⟩ hO dX6_clearPlaces_27 ?_
      refine zY.if_eq (tgt := 36) zr_b hO dX6_clearPlaces_30 (by decide) (fun c30 => ?_) (fun c30 => ?_)
      ·
        replace c30 := zb0.mp c30
        refine zY.iinc4 ((i + 1 : Nat) : Int) (by omega) (zc1_I _) hO dX6_clearPlaces_36 ?_
        refine zY.goto (tgt := 5) hO dX6_clearPlaces_39 (by decide) ?_
        have hin := ih5 (by omega)
        rw [show zkof D s so (i + 1) = zkof D s so i from (by simp only [zkof]; rw [hwq, Int.toNat_natCast, if_neg c30]; omega)] at hin
        exact hin
      ·
        replace c30 := zb1.mp c30
        refine zY.iinc3 (zkof D s so i + 1) rfl (zc1_I _) hO dX6_clearPlaces_33 ?_
        refine zY.iinc4 ((i + 1 : Nat) : Int) (by omega) (zc1_I _) hO dX6_clearPlaces_36 ?_
        refine zY.goto (tgt := 5) hO dX6_clearPlaces_39 (by decide) ?_
        have hin := ih5 (by omega)
        rw [show zkof D s so (i + 1) = zkof D s so i + 1 from (by simp only [zkof]; rw [hwq, Int.toNat_natCast, if_pos c30])] at hin
        exact hin
  exact L5 0 (by omega)

set_option maxRecDepth 100000 in
set_option maxHeartbeats 4000000 in
theorem ct_copy_22_1 {μ : zMem} {D : zBk} (hW : zWF D) (hS : zShp 1 D μ) : Cv kX6_copy 4 150 zSX [zP 22, zP 1] μ (fun μ' => zShp 22 D μ' ∧ zSame 22 38 μ μ') := by
  refine Ct.of [some (zP 22), some (zP 1)] rfl (Nat.le_of_ble_eq_true rfl) (by decide +kernel) (fun Γ ad hO hR => ?_)
  refine zY.aload_n hO dX6_copy_0 rfl ?_
  refine zY.getR zfl_X6_14 (by decide : 22 < 150) rfl rfl hO dX6_copy_1 ?_
  refine zY.aload_n hO dX6_copy_4 rfl ?_
  refine zY.getR zfl_X6_14 (by decide : 1 < 150) rfl rfl hO dX6_copy_5 ?_
  refine zY.callV1vD (ct_X5_copy zrw_23 zrw_2 (by decide)) (by decide) zcal_X5_copy zml_X6_51 (by decide : 23 < 150) rfl rfl (Nat.le_of_ble_eq_true rfl) rfl ⟨Nat.zero_le _, Nat.zero_le _⟩ hO dX6_copy_8 ?_
  refine zY.aload_n hO dX6_copy_11 rfl ?_
  refine zY.getR zfl_X6_20 (by decide : 22 < 150) rfl rfl hO dX6_copy_12 ?_
  refine zY.aload_n hO dX6_copy_15 rfl ?_
  refine zY.getR zfl_X6_20 (by decide : 1 < 150) rfl rfl hO dX6_copy_16 ?_
  refine zY.callV1vD (ct_X5_copy zrw_25 zrw_4 (by decide)) (by decide) zcal_X5_copy zml_X6_51 (by decide : 25 < 150) rfl rfl (Nat.le_of_ble_eq_true rfl) rfl ⟨Nat.zero_le _, Nat.zero_le _⟩ hO dX6_copy_19 ?_
  refine zY.aload_n hO dX6_copy_22 rfl ?_
  refine zY.getR zfl_X6_23 (by decide : 22 < 150) rfl rfl hO dX6_copy_23 ?_
  refine zY.aload_n hO dX6_copy_26 rfl ?_
  refine zY.getR zfl_X6_23 (by decide : 1 < 150) rfl rfl hO dX6_copy_27 ?_
  refine zY.callV1vD (ct_X5_copy zrw_27 zrw_6 (by decide)) (by decide) zcal_X5_copy zml_X6_51 (by decide : 27 < 150) rfl rfl (Nat.le_of_ble_eq_true rfl) rfl ⟨Nat.zero_le _, Nat.zero_le _⟩ hO dX6_copy_30 ?_
  refine zY.aload_n hO dX6_copy_33 rfl ?_
  refine zY.getR zfl_X6_26 (by decide : 22 < 150) rfl rfl hO dX6_copy_34 ?_
  refine zY.aload_n hO dX6_copy_37 rfl ?_
  refine zY.getR zfl_X6_26 (by decide : 1 < 150) rfl rfl hO dX6_copy_38 ?_
  refine zY.callV1vD (ct_X5_copy zrw_29 zrw_8 (by decide)) (by decide) zcal_X5_copy zml_X6_51 (by decide : 29 < 150) rfl rfl (Nat.le_of_ble_eq_true rfl) rfl ⟨Nat.zero_le _, Nat.zero_le _⟩ hO dX6_copy_41 ?_
  refine zY.aload_n hO dX6_copy_44 rfl ?_
  refine zY.getR zfl_X6_29 (by decide : 22 < 150) rfl rfl hO dX6_copy_45 ?_
  refine zY.aload_n hO dX6_copy_48 rfl ?_
  refine zY.getR zfl_X6_29 (by decide : 1 < 150) rfl rfl hO dX6_copy_49 ?_
  refine zY.callV1vD (ct_X5_copy zrw_31 zrw_10 (by decide)) (by decide) zcal_X5_copy zml_X6_51 (by decide : 31 < 150) rfl rfl (Nat.le_of_ble_eq_true rfl) rfl ⟨Nat.zero_le _, Nat.zero_le _⟩ hO dX6_copy_52 ?_
  refine zY.aload_n hO dX6_copy_55 rfl ?_
  refine zY.getR zfl_X6_32 (by decide : 22 < 150) rfl rfl hO dX6_copy_56 ?_
  refine zY.aload_n hO dX6_copy_59 rfl ?_
  refine zY.getR zfl_X6_32 (by decide : 1 < 150) rfl rfl hO dX6_copy_60 ?_
  refine zY.callV1vD (ct_X5_copy zrw_33 zrw_12 (by decide)) (by decide) zcal_X5_copy zml_X6_51 (by decide : 33 < 150) rfl rfl (Nat.le_of_ble_eq_true rfl) rfl ⟨Nat.zero_le _, Nat.zero_le _⟩ hO dX6_copy_63 ?_
  refine zY.aload_n hO dX6_copy_66 rfl ?_
  refine zY.getR zfl_X6_35 (by decide : 22 < 150) rfl rfl hO dX6_copy_67 ?_
  refine zY.aload_n hO dX6_copy_70 rfl ?_
  refine zY.getR zfl_X6_35 (by decide : 1 < 150) rfl rfl hO dX6_copy_71 ?_
  refine zY.callV1vD (ct_X5_copy zrw_35 zrw_14 (by decide)) (by decide) zcal_X5_copy zml_X6_51 (by decide : 35 < 150) rfl rfl (Nat.le_of_ble_eq_true rfl) rfl ⟨Nat.zero_le _, Nat.zero_le _⟩ hO dX6_copy_74 ?_
  refine zY.aload_n hO dX6_copy_77 rfl ?_
  refine zY.getR zfl_X6_38 (by decide : 22 < 150) rfl rfl hO dX6_copy_78 ?_
  refine zY.aload_n hO dX6_copy_81 rfl ?_
  refine zY.getR zfl_X6_38 (by decide : 1 < 150) rfl rfl hO dX6_copy_82 ?_
  refine zY.callV1vD (ct_X5_copy zrw_37 zrw_16 (by decide)) (by decide) zcal_X5_copy zml_X6_51 (by decide : 37 < 150) rfl rfl (Nat.le_of_ble_eq_true rfl) rfl ⟨Nat.zero_le _, Nat.zero_le _⟩ hO dX6_copy_85 ?_
  obtain ⟨μ9, hμ9⟩ : ∃ μ9 : zMem, μ9 = _ := ⟨_, rfl⟩
  refine zY.mem hμ9.symm ?_
  exact zY.vret rfl ⟨rfl, ⟨by
    refine ⟨fun w hw => ?_, fun s hs => ?_, ?_, ?_⟩
    · refine ⟨?_, ?_, fun i hi => ?_⟩
      · rw [← (hS.1 w hw).1, hμ9]; simp [zrow, hw, zrat_in]
      · rw [← (hS.1 w hw).2.1, hμ9]; simp [zrow, hw, zrat_in]
      · have hl := hW.1 w hw
        rw [← (hS.1 w hw).2.2 i hi, hμ9]; simp only [zrow]; simp; rw [if_pos (by omega)]; exact zrat_at (by omega) (by omega)
    · have hl := hW.2.1 s hs
      refine ⟨?_, ?_, ?_, ?_, fun i hi => ?_⟩
      · rw [← (hS.2.1 s hs).1, hμ9]; simp [zrow, hs, zrat_in]
      · rw [← (hS.2.1 s hs).2.1, hμ9]; simp [zrow, hs, zrat_in]
      · rw [← (hS.2.1 s hs).2.2.1, hμ9]; simp only [zrow]; simp; rw [if_pos (by omega)]; exact zrat_at (by omega) (by omega)
      · rw [← (hS.2.1 s hs).2.2.2.1, hμ9]; simp [zrow, hs, zrat_in]
      · rw [← (hS.2.1 s hs).2.2.2.2 i hi, hμ9]; simp only [zrow]; simp; rw [if_pos (by omega)]; exact zrat_at (by omega) (by omega)
    · rw [← hS.2.2.1, hμ9]; simp [zrow, zrat]
    · rw [← hS.2.2.2, hμ9]; simp [zrow, zrat], by rw [hμ9]; exact ((((((((zSame.rfl'.row (q := 24) (by decide) (by decide)).row (q := 26) (by decide) (by decide)).row (q := 28) (by decide) (by decide)).row (q := 30) (by decide) (by decide)).row (q := 32) (by decide) (by decide)).row (q := 34) (by decide) (by decide)).row (q := 36) (by decide) (by decide)).row (q := 38) (by decide) (by decide))⟩⟩ hR hO dX6_copy_88

set_option maxRecDepth 100000 in
set_option maxHeartbeats 4000000 in
theorem ct_copy_40_1 {μ : zMem} {D : zBk} (hW : zWF D) (hS : zShp 1 D μ) : Cv kX6_copy 4 150 zSX [zP 40, zP 1] μ (fun μ' => zShp 40 D μ' ∧ zSame 40 56 μ μ') := by
  refine Ct.of [some (zP 40), some (zP 1)] rfl (Nat.le_of_ble_eq_true rfl) (by decide +kernel) (fun Γ ad hO hR => ?_)
  refine zY.aload_n hO dX6_copy_0 rfl ?_
  refine zY.getR zfl_X6_14 (by decide : 40 < 150) rfl rfl hO dX6_copy_1 ?_
  refine zY.aload_n hO dX6_copy_4 rfl ?_
  refine zY.getR zfl_X6_14 (by decide : 1 < 150) rfl rfl hO dX6_copy_5 ?_
  refine zY.callV1vD (ct_X5_copy zrw_41 zrw_2 (by decide)) (by decide) zcal_X5_copy zml_X6_51 (by decide : 41 < 150) rfl rfl (Nat.le_of_ble_eq_true rfl) rfl ⟨Nat.zero_le _, Nat.zero_le _⟩ hO dX6_copy_8 ?_
  refine zY.aload_n hO dX6_copy_11 rfl ?_
  refine zY.getR zfl_X6_20 (by decide : 40 < 150) rfl rfl hO dX6_copy_12 ?_
  refine zY.aload_n hO dX6_copy_15 rfl ?_
  refine zY.getR zfl_X6_20 (by decide : 1 < 150) rfl rfl hO dX6_copy_16 ?_
  refine zY.callV1vD (ct_X5_copy zrw_43 zrw_4 (by decide)) (by decide) zcal_X5_copy zml_X6_51 (by decide : 43 < 150) rfl rfl (Nat.le_of_ble_eq_true rfl) rfl ⟨Nat.zero_le _, Nat.zero_le _⟩ hO dX6_copy_19 ?_
  refine zY.aload_n hO dX6_copy_22 rfl ?_
  refine zY.getR zfl_X6_23 (by decide : 40 < 150) rfl rfl hO dX6_copy_23 ?_
  refine zY.aload_n hO dX6_copy_26 rfl ?_
  refine zY.getR zfl_X6_23 (by decide : 1 < 150) rfl rfl hO dX6_copy_27 ?_
  refine zY.callV1vD (ct_X5_copy zrw_45 zrw_6 (by decide)) (by decide) zcal_X5_copy zml_X6_51 (by decide : 45 < 150) rfl rfl (Nat.le_of_ble_eq_true rfl) rfl ⟨Nat.zero_le _, Nat.zero_le _⟩ hO dX6_copy_30 ?_
  refine zY.aload_n hO dX6_copy_33 rfl ?_
  refine zY.getR zfl_X6_26 (by decide : 40 < 150) rfl rfl hO dX6_copy_34 ?_
  refine zY.aload_n hO dX6_copy_37 rfl ?_
  refine zY.getR zfl_X6_26 (by decide : 1 < 150) rfl rfl hO dX6_copy_38 ?_
  refine zY.callV1vD (ct_X5_copy zrw_47 zrw_8 (by decide)) (by decide) zcal_X5_copy zml_X6_51 (by decide : 47 < 150) rfl rfl (Nat.le_of_ble_eq_true rfl) rfl ⟨Nat.zero_le _, Nat.zero_le _⟩ hO dX6_copy_41 ?_
  refine zY.aload_n hO dX6_copy_44 rfl ?_
  refine zY.getR zfl_X6_29 (by decide : 40 < 150) rfl rfl hO dX6_copy_45 ?_
  refine zY.aload_n hO dX6_copy_48 rfl ?_
  refine zY.getR zfl_X6_29 (by decide : 1 < 150) rfl rfl hO dX6_copy_49 ?_
  refine zY.callV1vD (ct_X5_copy zrw_49 zrw_10 (by decide)) (by decide) zcal_X5_copy zml_X6_51 (by decide : 49 < 150) rfl rfl (Nat.le_of_ble_eq_true rfl) rfl ⟨Nat.zero_le _, Nat.zero_le _⟩ hO dX6_copy_52 ?_
  refine zY.aload_n hO dX6_copy_55 rfl ?_
  refine zY.getR zfl_X6_32 (by decide : 40 < 150) rfl rfl hO dX6_copy_56 ?_
  refine zY.aload_n hO dX6_copy_59 rfl ?_
  refine zY.getR zfl_X6_32 (by decide : 1 < 150) rfl rfl hO dX6_copy_60 ?_
  refine zY.callV1vD (ct_X5_copy zrw_51 zrw_12 (by decide)) (by decide) zcal_X5_copy zml_X6_51 (by decide : 51 < 150) rfl rfl (Nat.le_of_ble_eq_true rfl) rfl ⟨Nat.zero_le _, Nat.zero_le _⟩ hO dX6_copy_63 ?_
  refine zY.aload_n hO dX6_copy_66 rfl ?_
  refine zY.getR zfl_X6_35 (by decide : 40 < 150) rfl rfl hO dX6_copy_67 ?_
  refine zY.aload_n hO dX6_copy_70 rfl ?_
  refine zY.getR zfl_X6_35 (by decide : 1 < 150) rfl rfl hO dX6_copy_71 ?_
  refine zY.callV1vD (ct_X5_copy zrw_53 zrw_14 (by decide)) (by decide) zcal_X5_copy zml_X6_51 (by decide : 53 < 150) rfl rfl (Nat.le_of_ble_eq_true rfl) rfl ⟨Nat.zero_le _, Nat.zero_le _⟩ hO dX6_copy_74 ?_
  refine zY.aload_n hO dX6_copy_77 rfl ?_
  refine zY.getR zfl_X6_38 (by decide : 40 < 150) rfl rfl hO dX6_copy_78 ?_
  refine zY.aload_n hO dX6_copy_81 rfl ?_
  refine zY.getR zfl_X6_38 (by decide : 1 < 150) rfl rfl hO dX6_copy_82 ?_
  refine zY.callV1vD (ct_X5_copy zrw_55 zrw_16 (by decide)) (by decide) zcal_X5_copy zml_X6_51 (by decide : 55 < 150) rfl rfl (Nat.le_of_ble_eq_true rfl) rfl ⟨Nat.zero_le _, Nat.zero_le _⟩ hO dX6_copy_85 ?_
  obtain ⟨μ9, hμ9⟩ : ∃ μ9 : zMem, μ9 = _ := ⟨_, rfl⟩
  refine zY.mem hμ9.symm ?_
  exact zY.vret rfl ⟨rfl, ⟨by
    refine ⟨fun w hw => ?_, fun s hs => ?_, ?_, ?_⟩
    · refine ⟨?_, ?_, fun i hi => ?_⟩
      · rw [← (hS.1 w hw).1, hμ9]; simp [zrow, hw, zrat_in]
      · rw [← (hS.1 w hw).2.1, hμ9]; simp [zrow, hw, zrat_in]
      · have hl := hW.1 w hw
        rw [← (hS.1 w hw).2.2 i hi, hμ9]; simp only [zrow]; simp; rw [if_pos (by omega)]; exact zrat_at (by omega) (by omega)
    · have hl := hW.2.1 s hs
      refine ⟨?_, ?_, ?_, ?_, fun i hi => ?_⟩
      · rw [← (hS.2.1 s hs).1, hμ9]; simp [zrow, hs, zrat_in]
      · rw [← (hS.2.1 s hs).2.1, hμ9]; simp [zrow, hs, zrat_in]
      · rw [← (hS.2.1 s hs).2.2.1, hμ9]; simp only [zrow]; simp; rw [if_pos (by omega)]; exact zrat_at (by omega) (by omega)
      · rw [← (hS.2.1 s hs).2.2.2.1, hμ9]; simp [zrow, hs, zrat_in]
      · rw [← (hS.2.1 s hs).2.2.2.2 i hi, hμ9]; simp only [zrow]; simp; rw [if_pos (by omega)]; exact zrat_at (by omega) (by omega)
    · rw [← hS.2.2.1, hμ9]; simp [zrow, zrat]
    · rw [← hS.2.2.2, hμ9]; simp [zrow, zrat], by rw [hμ9]; exact ((((((((zSame.rfl'.row (q := 42) (by decide) (by decide)).row (q := 44) (by decide) (by decide)).row (q := 46) (by decide) (by decide)).row (q := 48) (by decide) (by decide)).row (q := 50) (by decide) (by decide)).row (q := 52) (by decide) (by decide)).row (q := 54) (by decide) (by decide)).row (q := 56) (by decide) (by decide))⟩⟩ hR hO dX6_copy_88

set_option maxRecDepth 100000 in
set_option maxHeartbeats 4000000 in
theorem ct_copy_1_22 {μ : zMem} {D : zBk} (hW : zWF D) (hS : zShp 22 D μ) : Cv kX6_copy 4 150 zSX [zP 1, zP 22] μ (fun μ' => zShp 1 D μ' ∧ zSame 1 17 μ μ') := by
  refine Ct.of [some (zP 1), some (zP 22)] rfl (Nat.le_of_ble_eq_true rfl) (by decide +kernel) (fun Γ ad hO hR => ?_)
  refine zY.aload_n hO dX6_copy_0 rfl ?_
  refine zY.getR zfl_X6_14 (by decide : 1 < 150) rfl rfl hO dX6_copy_1 ?_
  refine zY.aload_n hO dX6_copy_4 rfl ?_
  refine zY.getR zfl_X6_14 (by decide : 22 < 150) rfl rfl hO dX6_copy_5 ?_
  refine zY.callV1vD (ct_X5_copy zrw_2 zrw_23 (by decide)) (by decide) zcal_X5_copy zml_X6_51 (by decide : 2 < 150) rfl rfl (Nat.le_of_ble_eq_true rfl) rfl ⟨Nat.zero_le _, Nat.zero_le _⟩ hO dX6_copy_8 ?_
  refine zY.aload_n hO dX6_copy_11 rfl ?_
  refine zY.getR zfl_X6_20 (by decide : 1 < 150) rfl rfl hO dX6_copy_12 ?_
  refine zY.aload_n hO dX6_copy_15 rfl ?_
  refine zY.getR zfl_X6_20 (by decide : 22 < 150) rfl rfl hO dX6_copy_16 ?_
  refine zY.callV1vD (ct_X5_copy zrw_4 zrw_25 (by decide)) (by decide) zcal_X5_copy zml_X6_51 (by decide : 4 < 150) rfl rfl (Nat.le_of_ble_eq_true rfl) rfl ⟨Nat.zero_le _, Nat.zero_le _⟩ hO dX6_copy_19 ?_
  refine zY.aload_n hO dX6_copy_22 rfl ?_
  refine zY.getR zfl_X6_23 (by decide : 1 < 150) rfl rfl hO dX6_copy_23 ?_
  refine zY.aload_n hO dX6_copy_26 rfl ?_
  refine zY.getR zfl_X6_23 (by decide : 22 < 150) rfl rfl hO dX6_copy_27 ?_
  refine zY.callV1vD (ct_X5_copy zrw_6 zrw_27 (by decide)) (by decide) zcal_X5_copy zml_X6_51 (by decide : 6 < 150) rfl rfl (Nat.le_of_ble_eq_true rfl) rfl ⟨Nat.zero_le _, Nat.zero_le _⟩ hO dX6_copy_30 ?_
  refine zY.aload_n hO dX6_copy_33 rfl ?_
  refine zY.getR zfl_X6_26 (by decide : 1 < 150) rfl rfl hO dX6_copy_34 ?_
  refine zY.aload_n hO dX6_copy_37 rfl ?_
  refine zY.getR zfl_X6_26 (by decide : 22 < 150) rfl rfl hO dX6_copy_38 ?_
  refine zY.callV1vD (ct_X5_copy zrw_8 zrw_29 (by decide)) (by decide) zcal_X5_copy zml_X6_51 (by decide : 8 < 150) rfl rfl (Nat.le_of_ble_eq_true rfl) rfl ⟨Nat.zero_le _, Nat.zero_le _⟩ hO dX6_copy_41 ?_
  refine zY.aload_n hO dX6_copy_44 rfl ?_
  refine zY.getR zfl_X6_29 (by decide : 1 < 150) rfl rfl hO dX6_copy_45 ?_
  refine zY.aload_n hO dX6_copy_48 rfl ?_
  refine zY.getR zfl_X6_29 (by decide : 22 < 150) rfl rfl hO dX6_copy_49 ?_
  refine zY.callV1vD (ct_X5_copy zrw_10 zrw_31 (by decide)) (by decide) zcal_X5_copy zml_X6_51 (by decide : 10 < 150) rfl rfl (Nat.le_of_ble_eq_true rfl) rfl ⟨Nat.zero_le _, Nat.zero_le _⟩ hO dX6_copy_52 ?_
  refine zY.aload_n hO dX6_copy_55 rfl ?_
  refine zY.getR zfl_X6_32 (by decide : 1 < 150) rfl rfl hO dX6_copy_56 ?_
  refine zY.aload_n hO dX6_copy_59 rfl ?_
  refine zY.getR zfl_X6_32 (by decide : 22 < 150) rfl rfl hO dX6_copy_60 ?_
  refine zY.callV1vD (ct_X5_copy zrw_12 zrw_33 (by decide)) (by decide) zcal_X5_copy zml_X6_51 (by decide : 12 < 150) rfl rfl (Nat.le_of_ble_eq_true rfl) rfl ⟨Nat.zero_le _, Nat.zero_le _⟩ hO dX6_copy_63 ?_
  refine zY.aload_n hO dX6_copy_66 rfl ?_
  refine zY.getR zfl_X6_35 (by decide : 1 < 150) rfl rfl hO dX6_copy_67 ?_
  refine zY.aload_n hO dX6_copy_70 rfl ?_
  refine zY.getR zfl_X6_35 (by decide : 22 < 150) rfl rfl hO dX6_copy_71 ?_
  refine zY.callV1vD (ct_X5_copy zrw_14 zrw_35 (by decide)) (by decide) zcal_X5_copy zml_X6_51 (by decide : 14 < 150) rfl rfl (Nat.le_of_ble_eq_true rfl) rfl ⟨Nat.zero_le _, Nat.zero_le _⟩ hO dX6_copy_74 ?_
  refine zY.aload_n hO dX6_copy_77 rfl ?_
  refine zY.getR zfl_X6_38 (by decide : 1 < 150) rfl rfl hO dX6_copy_78 ?_
  refine zY.aload_n hO dX6_copy_81 rfl ?_
  refine zY.getR zfl_X6_38 (by decide : 22 < 150) rfl rfl hO dX6_copy_82 ?_
  refine zY.callV1vD (ct_X5_copy zrw_16 zrw_37 (by decide)) (by decide) zcal_X5_copy zml_X6_51 (by decide : 16 < 150) rfl rfl (Nat.le_of_ble_eq_true rfl) rfl ⟨Nat.zero_le _, Nat.zero_le _⟩ hO dX6_copy_85 ?_
  obtain ⟨μ9, hμ9⟩ : ∃ μ9 : zMem, μ9 = _ := ⟨_, rfl⟩
  refine zY.mem hμ9.symm ?_
  exact zY.vret rfl ⟨rfl, ⟨by
    refine ⟨fun w hw => ?_, fun s hs => ?_, ?_, ?_⟩
    · refine ⟨?_, ?_, fun i hi => ?_⟩
      · rw [← (hS.1 w hw).1, hμ9]; simp [zrow, hw, zrat_in]
      · rw [← (hS.1 w hw).2.1, hμ9]; simp [zrow, hw, zrat_in]
      · have hl := hW.1 w hw
        rw [← (hS.1 w hw).2.2 i hi, hμ9]; simp only [zrow]; simp; rw [if_pos (by omega)]; exact zrat_at (by omega) (by omega)
    · have hl := hW.2.1 s hs
      refine ⟨?_, ?_, ?_, ?_, fun i hi => ?_⟩
      · rw [← (hS.2.1 s hs).1, hμ9]; simp [zrow, hs, zrat_in]
      · rw [← (hS.2.1 s hs).2.1, hμ9]; simp [zrow, hs, zrat_in]
      · rw [← (hS.2.1 s hs).2.2.1, hμ9]; simp only [zrow]; simp; rw [if_pos (by omega)]; exact zrat_at (by omega) (by omega)
      · rw [← (hS.2.1 s hs).2.2.2.1, hμ9]; simp [zrow, hs, zrat_in]
      · rw [← (hS.2.1 s hs).2.2.2.2 i hi, hμ9]; simp only [zrow]; simp; rw [if_pos (by omega)]; exact zrat_at (by omega) (by omega)
    · rw [← hS.2.2.1, hμ9]; simp [zrow, zrat]
    · rw [← hS.2.2.2, hμ9]; simp [zrow, zrat], by rw [hμ9]; exact ((((((((zSame.rfl'.row (q := 3) (by decide) (by decide)).row (q := 5) (by decide) (by decide)).row (q := 7) (by decide) (by decide)).row (q := 9) (by decide) (by decide)).row (q := 11) (by decide) (by decide)).row (q := 13) (by decide) (by decide)).row (q := 15) (by decide) (by decide)).row (q := 17) (by decide) (by decide))⟩⟩ hR hO dX6_copy_88

set_option maxRecDepth 100000 in
set_option maxHeartbeats 4000000 in
theorem ct_copy_1_40 {μ : zMem} {D : zBk} (hW : zWF D) (hS : zShp 40 D μ) : Cv kX6_copy 4 150 zSX [zP 1, zP 40] μ (fun μ' => zShp 1 D μ' ∧ zSame 1 17 μ μ') := by
  refine Ct.of [some (zP 1), some (zP 40)] rfl (Nat.le_of_ble_eq_true rfl) (by decide +kernel) (fun Γ ad hO hR => ?_)
  refine zY.aload_n hO dX6_copy_0 rfl ?_
  refine zY.getR zfl_X6_14 (by decide : 1 < 150) rfl rfl hO dX6_copy_1 ?_
  refine zY.aload_n hO dX6_copy_4 rfl ?_
  refine zY.getR zfl_X6_14 (by decide : 40 < 150) rfl rfl hO dX6_copy_5 ?_
  refine zY.callV1vD (ct_X5_copy zrw_2 zrw_41 (by decide)) (by decide) zcal_X5_copy zml_X6_51 (by decide : 2 < 150) rfl rfl (Nat.le_of_ble_eq_true rfl) rfl ⟨Nat.zero_le _, Nat.zero_le _⟩ hO dX6_copy_8 ?_
  refine zY.aload_n hO dX6_copy_11 rfl ?_
  refine zY.getR zfl_X6_20 (by decide : 1 < 150) rfl rfl hO dX6_copy_12 ?_
  refine zY.aload_n hO dX6_copy_15 rfl ?_
  refine zY.getR zfl_X6_20 (by decide : 40 < 150) rfl rfl hO dX6_copy_16 ?_
  refine zY.callV1vD (ct_X5_copy zrw_4 zrw_43 (by decide)) (by decide) zcal_X5_copy zml_X6_51 (by decide : 4 < 150) rfl rfl (Nat.le_of_ble_eq_true rfl) rfl ⟨Nat.zero_le _, Nat.zero_le _⟩ hO dX6_copy_19 ?_
  refine zY.aload_n hO dX6_copy_22 rfl ?_
  refine zY.getR zfl_X6_23 (by decide : 1 < 150) rfl rfl hO dX6_copy_23 ?_
  refine zY.aload_n hO dX6_copy_26 rfl ?_
  refine zY.getR zfl_X6_23 (by decide : 40 < 150) rfl rfl hO dX6_copy_27 ?_
  refine zY.callV1vD (ct_X5_copy zrw_6 zrw_45 (by decide)) (by decide) zcal_X5_copy zml_X6_51 (by decide : 6 < 150) rfl rfl (Nat.le_of_ble_eq_true rfl) rfl ⟨Nat.zero_le _, Nat.zero_le _⟩ hO dX6_copy_30 ?_
  refine zY.aload_n hO dX6_copy_33 rfl ?_
  refine zY.getR zfl_X6_26 (by decide : 1 < 150) rfl rfl hO dX6_copy_34 ?_
  refine zY.aload_n hO dX6_copy_37 rfl ?_
  refine zY.getR zfl_X6_26 (by decide : 40 < 150) rfl rfl hO dX6_copy_38 ?_
  refine zY.callV1vD (ct_X5_copy zrw_8 zrw_47 (by decide)) (by decide) zcal_X5_copy zml_X6_51 (by decide : 8 < 150) rfl rfl (Nat.le_of_ble_eq_true rfl) rfl ⟨Nat.zero_le _, Nat.zero_le _⟩ hO dX6_copy_41 ?_
  refine zY.aload_n hO dX6_copy_44 rfl ?_
  refine zY.getR zfl_X6_29 (by decide : 1 < 150) rfl rfl hO dX6_copy_45 ?_
  refine zY.aload_n hO dX6_copy_48 rfl ?_
  refine zY.getR zfl_X6_29 (by decide : 40 < 150) rfl rfl hO dX6_copy_49 ?_
  refine zY.callV1vD (ct_X5_copy zrw_10 zrw_49 (by decide)) (by decide) zcal_X5_copy zml_X6_51 (by decide : 10 < 150) rfl rfl (Nat.le_of_ble_eq_true rfl) rfl ⟨Nat.zero_le _, Nat.zero_le _⟩ hO dX6_copy_52 ?_
  refine zY.aload_n hO dX6_copy_55 rfl ?_
  refine zY.getR zfl_X6_32 (by decide : 1 < 150) rfl rfl hO dX6_copy_56 ?_
  refine zY.aload_n hO dX6_copy_59 rfl ?_
  refine zY.getR zfl_X6_32 (by decide : 40 < 150) rfl rfl hO dX6_copy_60 ?_
  refine zY.callV1vD (ct_X5_copy zrw_12 zrw_51 (by decide)) (by decide) zcal_X5_copy zml_X6_51 (by decide : 12 < 150) rfl rfl (Nat.le_of_ble_eq_true rfl) rfl ⟨Nat.zero_le _, Nat.zero_le _⟩ hO dX6_copy_63 ?_
  refine zY.aload_n hO dX6_copy_66 rfl ?_
  refine zY.getR zfl_X6_35 (by decide : 1 < 150) rfl rfl hO dX6_copy_67 ?_
  refine zY.aload_n hO dX6_copy_70 rfl ?_
  refine zY.getR zfl_X6_35 (by decide : 40 < 150) rfl rfl hO dX6_copy_71 ?_
  refine zY.callV1vD (ct_X5_copy zrw_14 zrw_53 (by decide)) (by decide) zcal_X5_copy zml_X6_51 (by decide : 14 < 150) rfl rfl (Nat.le_of_ble_eq_true rfl) rfl ⟨Nat.zero_le _, Nat.zero_le _⟩ hO dX6_copy_74 ?_
  refine zY.aload_n hO dX6_copy_77 rfl ?_
  refine zY.getR zfl_X6_38 (by decide : 1 < 150) rfl rfl hO dX6_copy_78 ?_
  refine zY.aload_n hO dX6_copy_81 rfl ?_
  refine zY.getR zfl_X6_38 (by decide : 40 < 150) rfl rfl hO dX6_copy_82 ?_
  refine zY.callV1vD (ct_X5_copy zrw_16 zrw_55 (by decide)) (by decide) zcal_X5_copy zml_X6_51 (by decide : 16 < 150) rfl rfl (Nat.le_of_ble_eq_true rfl) rfl ⟨Nat.zero_le _, Nat.zero_le _⟩ hO dX6_copy_85 ?_
  obtain ⟨μ9, hμ9⟩ : ∃ μ9 : zMem, μ9 = _ := ⟨_, rfl⟩
  refine zY.mem hμ9.symm ?_
  exact zY.vret rfl ⟨rfl, ⟨by
    refine ⟨fun w hw => ?_, fun s hs => ?_, ?_, ?_⟩
    · refine ⟨?_, ?_, fun i hi => ?_⟩
      · rw [← (hS.1 w hw).1, hμ9]; simp [zrow, hw, zrat_in]
      · rw [← (hS.1 w hw).2.1, hμ9]; simp [zrow, hw, zrat_in]
      · have hl := hW.1 w hw
        rw [← (hS.1 w hw).2.2 i hi, hμ9]; simp only [zrow]; simp; rw [if_pos (by omega)]; exact zrat_at (by omega) (by omega)
    · have hl := hW.2.1 s hs
      refine ⟨?_, ?_, ?_, ?_, fun i hi => ?_⟩
      · rw [← (hS.2.1 s hs).1, hμ9]; simp [zrow, hs, zrat_in]
      · rw [← (hS.2.1 s hs).2.1, hμ9]; simp [zrow, hs, zrat_in]
      · rw [← (hS.2.1 s hs).2.2.1, hμ9]; simp only [zrow]; simp; rw [if_pos (by omega)]; exact zrat_at (by omega) (by omega)
      · rw [← (hS.2.1 s hs).2.2.2.1, hμ9]; simp [zrow, hs, zrat_in]
      · rw [← (hS.2.1 s hs).2.2.2.2 i hi, hμ9]; simp only [zrow]; simp; rw [if_pos (by omega)]; exact zrat_at (by omega) (by omega)
    · rw [← hS.2.2.1, hμ9]; simp [zrow, zrat]
    · rw [← hS.2.2.2, hμ9]; simp [zrow, zrat], by rw [hμ9]; exact ((((((((zSame.rfl'.row (q := 3) (by decide) (by decide)).row (q := 5) (by decide) (by decide)).row (q := 7) (by decide) (by decide)).row (q := 9) (by decide) (by decide)).row (q := 11) (by decide) (by decide)).row (q := 13) (by decide) (by decide)).row (q := 15) (by decide) (by decide)).row (q := 17) (by decide) (by decide))⟩⟩ hR hO dX6_copy_88

set_option maxRecDepth 100000 in
set_option maxHeartbeats 4000000 in
theorem ct_keep_21 {μ : zMem} {D : zBk} (hW : zWF D) (hS : zShp 1 D μ) : Cv kX2_keep 5 150 zSX [zP 21, zP 1] μ (fun μ' => zIm 21 (some D) μ' ∧ zSame 21 38 μ μ') := by
  refine Ct.of [some (zP 21), some (zP 1)] rfl (Nat.le_of_ble_eq_true rfl) (by decide +kernel) (fun Γ ad hO hR => ?_)
  refine zY.aload_n hO dX2_keep_0 rfl ?_
  refine zY.getR zfl_X2_10 (by decide : 21 < 150) rfl rfl hO dX2_keep_1 ?_
  refine zY.aload_n hO dX2_keep_4 rfl ?_
  refine zY.callV1v (ct_copy_22_1 hW hS) (by decide) zcal_X6_copy zml_X2_20 (by decide : 22 < 150) rfl rfl (Nat.le_of_ble_eq_true rfl) rfl ⟨Nat.zero_le _, Nat.zero_le _⟩ hO dX2_keep_5 (fun μ2 hq2 => ?_)
  refine zY.aload_n hO dX2_keep_8 rfl ?_
  refine zY.iconst hO dX2_keep_9 ?_
  refine zY.putZ (Or.inr rfl) zfp_X2_16 (by decide : 21 < 150) rfl rfl hO dX2_keep_10 ?_
  exact zY.vret rfl ⟨rfl, ⟨⟨by simp [zwr], hq2.1.row (fun q h1 h2 => zwr_ne (by omega)), hW⟩, (hq2.2.wide (by decide) (by decide)).wr (by decide) (by decide)⟩⟩ hR hO dX2_keep_13

set_option maxRecDepth 100000 in
set_option maxHeartbeats 4000000 in
theorem ct_giveTo_21 {μ : zMem} {k : Option zBk} (hI : zIm 21 k μ) : Ci kX2_giveTo 5 150 zSX [zP 21, zP 1] μ (fun a μ' => (k = none ∧ a = 0 ∧ μ' = μ) ∨ (∃ K, k = some K ∧ a = 1 ∧ zShp 1 K μ' ∧ zSame 1 17 μ μ')) := by
  refine Ct.of [some (zP 21), some (zP 1)] rfl (Nat.le_of_ble_eq_true rfl) (by decide +kernel) (fun Γ ad hO hR => ?_)
  refine zY.aload_n hO dX2_giveTo_0 rfl ?_
  refine zY.getI zfl_X2_16 (by decide : 21 < 150) rfl rfl hO dX2_giveTo_1 ?_
  have hfu : (k = none ∧ μ 21 1 = 0) ∨ (∃ K, k = some K ∧ μ 21 1 = 1 ∧ zShp 22 K μ ∧ zWF K) := by
    cases k with
    | none => exact Or.inl ⟨rfl, hI⟩
    | some K => exact Or.inr ⟨K, rfl, hI.1, hI.2.1, hI.2.2⟩
  have hfr : μ 21 1 = 0 ∨ μ 21 1 = 1 := by rcases hfu with hz | ⟨K, _, hz, _⟩; exact Or.inl hz.2; exact Or.inr hz
  refine zY.if_eq (tgt := 15) ⟨by omega, by omega⟩ hO dX2_giveTo_4 (by decide) (fun c4 => ?_) (fun c4 => ?_)
  ·
    have hno : k = none := by rcases hfu with hz | ⟨K, _, hz, _⟩; exact hz.1; omega
    refine zY.aload_n hO dX2_giveTo_15 rfl ?_
    refine zY.getI zfl_X2_16 (by decide : 21 < 150) rfl rfl hO dX2_giveTo_16 ?_
    refine zY.as c4 ?_
    exact zY.zret (by decide) rfl ⟨_, rfl, (Or.inl ⟨hno, rfl, rfl⟩)⟩ hR hO dX2_giveTo_19
  ·
    obtain ⟨K, hk1, hk2, hk3, hk4⟩ : ∃ K, k = some K ∧ μ 21 1 = 1 ∧ zShp 22 K μ ∧ zWF K := by rcases hfu with hz | hz; exact absurd hz.2 c4; exact hz
    refine zY.aload_n hO dX2_giveTo_7 rfl ?_
    refine zY.aload_n hO dX2_giveTo_8 rfl ?_
    refine zY.getR zfl_X2_10 (by decide : 21 < 150) rfl rfl hO dX2_giveTo_9 ?_
    refine zY.callV1v (ct_copy_1_22 hk4 hk3) (by decide) zcal_X6_copy zml_X2_20 (by decide : 1 < 150) rfl rfl (Nat.le_of_ble_eq_true rfl) rfl ⟨Nat.zero_le _, Nat.zero_le _⟩ hO dX2_giveTo_12 (fun μ2 hq2 => ?_)
    refine zY.aload_n hO dX2_giveTo_15 rfl ?_
    refine zY.getI zfl_X2_16 (by decide : 21 < 150) rfl rfl hO dX2_giveTo_16 ?_
    refine zY.as (b := 1) (by rw [hq2.2 21 (Or.inr (by decide))]; exact hk2) ?_
    exact zY.zret (by decide) rfl ⟨_, rfl, (Or.inr ⟨K, hk1, rfl, hq2.1, hq2.2.wide (by decide) (by decide)⟩)⟩ hR hO dX2_giveTo_19

set_option maxRecDepth 100000 in
set_option maxHeartbeats 4000000 in
theorem ct_keep_39 {μ : zMem} {D : zBk} (hW : zWF D) (hS : zShp 1 D μ) : Cv kX2_keep 5 150 zSX [zP 39, zP 1] μ (fun μ' => zIm 39 (some D) μ' ∧ zSame 39 56 μ μ') := by
  refine Ct.of [some (zP 39), some (zP 1)] rfl (Nat.le_of_ble_eq_true rfl) (by decide +kernel) (fun Γ ad hO hR => ?_)
  refine zY.aload_n hO dX2_keep_0 rfl ?_
  refine zY.getR zfl_X2_10 (by decide : 39 < 150) rfl rfl hO dX2_keep_1 ?_
  refine zY.aload_n hO dX2_keep_4 rfl ?_
  refine zY.callV1v (ct_copy_40_1 hW hS) (by decide) zcal_X6_copy zml_X2_20 (by decide : 40 < 150) rfl rfl (Nat.le_of_ble_eq_true rfl) rfl ⟨Nat.zero_le _, Nat.zero_le _⟩ hO dX2_keep_5 (fun μ2 hq2 => ?_)
  refine zY.aload_n hO dX2_keep_8 rfl ?_
  refine zY.iconst hO dX2_keep_9 ?_
  refine zY.putZ (Or.inr rfl) zfp_X2_16 (by decide : 39 < 150) rfl rfl hO dX2_keep_10 ?_
  exact zY.vret rfl ⟨rfl, ⟨⟨by simp [zwr], hq2.1.row (fun q h1 h2 => zwr_ne (by omega)), hW⟩, (hq2.2.wide (by decide) (by decide)).wr (by decide) (by decide)⟩⟩ hR hO dX2_keep_13

set_option maxRecDepth 100000 in
set_option maxHeartbeats 4000000 in
theorem ct_giveTo_39 {μ : zMem} {k : Option zBk} (hI : zIm 39 k μ) : Ci kX2_giveTo 5 150 zSX [zP 39, zP 1] μ (fun a μ' => (k = none ∧ a = 0 ∧ μ' = μ) ∨ (∃ K, k = some K ∧ a = 1 ∧ zShp 1 K μ' ∧ zSame 1 17 μ μ')) := by
  refine Ct.of [some (zP 39), some (zP 1)] rfl (Nat.le_of_ble_eq_true rfl) (by decide +kernel) (fun Γ ad hO hR => ?_)
  refine zY.aload_n hO dX2_giveTo_0 rfl ?_
  refine zY.getI zfl_X2_16 (by decide : 39 < 150) rfl rfl hO dX2_giveTo_1 ?_
  have hfu : (k = none ∧ μ 39 1 = 0) ∨ (∃ K, k = some K ∧ μ 39 1 = 1 ∧ zShp 40 K μ ∧ zWF K) := by
    cases k with
    | none => exact Or.inl ⟨rfl, hI⟩
    | some K => exact Or.inr ⟨K, rfl, hI.1, hI.2.1, hI.2.2⟩
  have hfr : μ 39 1 = 0 ∨ μ 39 1 = 1 := by rcases hfu with hz | ⟨K, _, hz, _⟩; exact Or.inl hz.2; exact Or.inr hz
  refine zY.if_eq (tgt := 15) ⟨by omega, by omega⟩ hO dX2_giveTo_4 (by decide) (fun c4 => ?_) (fun c4 => ?_)
  ·
    have hno : k = none := by rcases hfu with hz | ⟨K, _, hz, _⟩; exact hz.1; omega
    refine zY.aload_n hO dX2_giveTo_15 rfl ?_
    refine zY.getI zfl_X2_16 (by decide : 39 < 150) rfl rfl hO dX2_giveTo_16 ?_
    refine zY.as c4 ?_
    exact zY.zret (by decide) rfl ⟨_, rfl, (Or.inl ⟨hno, rfl, rfl⟩)⟩ hR hO dX2_giveTo_19
  ·
    obtain ⟨K, hk1, hk2, hk3, hk4⟩ : ∃ K, k = some K ∧ μ 39 1 = 1 ∧ zShp 40 K μ ∧ zWF K := by rcases hfu with hz | hz; exact absurd hz.2 c4; exact hz
    refine zY.aload_n hO dX2_giveTo_7 rfl ?_
    refine zY.aload_n hO dX2_giveTo_8 rfl ?_
    refine zY.getR zfl_X2_10 (by decide : 39 < 150) rfl rfl hO dX2_giveTo_9 ?_
    refine zY.callV1v (ct_copy_1_40 hk4 hk3) (by decide) zcal_X6_copy zml_X2_20 (by decide : 1 < 150) rfl rfl (Nat.le_of_ble_eq_true rfl) rfl ⟨Nat.zero_le _, Nat.zero_le _⟩ hO dX2_giveTo_12 (fun μ2 hq2 => ?_)
    refine zY.aload_n hO dX2_giveTo_15 rfl ?_
    refine zY.getI zfl_X2_16 (by decide : 39 < 150) rfl rfl hO dX2_giveTo_16 ?_
    refine zY.as (b := 1) (by rw [hq2.2 39 (Or.inr (by decide))]; exact hk2) ?_
    exact zY.zret (by decide) rfl ⟨_, rfl, (Or.inr ⟨K, hk1, rfl, hq2.1, hq2.2.wide (by decide) (by decide)⟩)⟩ hR hO dX2_giveTo_19
